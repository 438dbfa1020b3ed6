/-! written by wip/whole/gen.py out of the printed bytecode -/
def pL_law_b1469 (E : EC) (p0 : Nat) (k18 : Nat → Nat → Int32 → MT → CT → Option ((Int32) × MT × CT)) (l1 : Nat) (l2 : Nat) (l3 : Int32) (g : MT) (h : CT) : Option ((Int32) × MT × CT) := lt (l3 + 6) fun x1 => (k18 l1 l2 x1 g h)
set_option maxRecDepth 10000 in
set_option maxHeartbeats 4000000 in
theorem pL_law_b1469_ok {X : Cx} {G : Gx} {dk : Nat} {b : Nat} {g0 : MT} {h0 : CT} {p0 : Nat} {k18 : Nat → Nat → Int32 → MT → CT → Option ((Int32) × MT × CT)} (Z : Zw X G dk b g0 h0) (hK : 131 ≤ dk) {E : EC} (hE : G.2.2.2 = E) (hk18 : ∀ (l1 : Nat) (l2 : Nat) (l3 : Int32) (g : MT) (h : CT), RM X g → k18 l1 l2 l3 g h = some (1, g0, h0) → J X g h 18 [(0, va_rf (some p0)), (1, va_rf (some l1)), (2, va_rf (some l2)), (3, .int l3)] []) (l1 : Nat) (l2 : Nat) (l3 : Int32) (g : MT) (h : CT) (M : RM X g) (hf : pL_law_b1469 E p0 k18 l1 l2 l3 g h = some (1, g0, h0)) : J X g h 1469 [(0, va_rf (some p0)), (1, va_rf (some l1)), (2, va_rf (some l2)), (3, .int l3)] [] := by
  unfold pL_law_b1469 at hf
  refine J_iinc Z.1 (v := 6) (lv2 := [(3, .int (l3 + 6)), (0, va_rf (some p0)), (1, va_rf (some l1)), (2, va_rf (some l2))]) 3 dL_law_1469 rfl (by decide) (wL Z (by decide)) rfl ?_
  obtain ⟨x1, ex1⟩ : ∃ z, z = (l3 + 6) := ⟨_, rfl⟩
  replace hf := lt_i hf x1 ex1
  rw [← ex1]
  refine J_goto Z.1 18 dL_law_1472 (by decide) ?_
  refine J_lv [1, 2, 3, 0] rfl ?_
  exact hk18 _ _ _ _ _ M hf
def pL_law_b18 (E : EC) (p0 : Nat) (k18 : Nat → Nat → Int32 → MT → CT → Option ((Int32) × MT × CT)) (l1 : Nat) (l2 : Nat) (l3 : Int32) (g : MT) (h : CT) : Option ((Int32) × MT × CT) := tg E.2.2 p0 20 (if ((Int32.ofNat (gL E.2.2 p0)) - 6) < l3 then some (1, g, h) else ix (gL E.2.2 p0) l3 (lt ((hI E.2.1 p0 (Int32.toNatClampNeg l3)) &&& 63) fun x4 => (if x4 = 0 then tg g l1 11 (bd (pX12_status g h l1) fun x7 => (tg g l2 12 (bd2 (pX13_status g h l2) fun x12 h10 => (if x7 = x12 then pL_law_b1469 E p0 k18 l1 l2 l3 g h10 else some (0, g, h10))))) else (if x4 = 1 then tg g l1 11 (bd (pX12_mantissa g h l1) fun x16 => (tg g l2 12 (bd2 (pX13_mantissa g h l2) fun x21 h19 => (if (lg_cmp x16 x21) = 0 then pL_law_b1469 E p0 k18 l1 l2 l3 g h19 else some (0, g, h19))))) else (if x4 = 2 then tg g l1 11 (bd (pX12_exponent g h l1) fun x25 => (tg g l2 12 (bd2 (pX13_exponent g h l2) fun x30 h28 => (if x25 = x30 then pL_law_b1469 E p0 k18 l1 l2 l3 g h28 else some (0, g, h28))))) else (if x4 = 3 then ix (gL E.2.2 p0) (l3 + 1) (ix (gL E.2.2 p0) (l3 + 2) (ix (gL E.2.2 p0) (l3 + 3) (tg g l1 11 (bd2 (pX12_tray g h l1 (hI E.2.1 p0 (Int32.toNatClampNeg (l3 + 1))) (hI E.2.1 p0 (Int32.toNatClampNeg (l3 + 2))) (hI E.2.1 p0 (Int32.toNatClampNeg (l3 + 3)))) fun x39 h37 => (ix (gL E.2.2 p0) (l3 + 1) (ix (gL E.2.2 p0) (l3 + 2) (ix (gL E.2.2 p0) (l3 + 3) (tg g l2 12 (bd2 (pX13_tray g h37 l2 (hI E.2.1 p0 (Int32.toNatClampNeg (l3 + 1))) (hI E.2.1 p0 (Int32.toNatClampNeg (l3 + 2))) (hI E.2.1 p0 (Int32.toNatClampNeg (l3 + 3)))) fun x46 h44 => (if x39 = x46 then pL_law_b1469 E p0 k18 l1 l2 l3 g h44 else some (0, g, h44))))))))))) else (if x4 = 4 then ix (gL E.2.2 p0) (l3 + 1) (ix (gL E.2.2 p0) (l3 + 2) (ix (gL E.2.2 p0) (l3 + 3) (ix (gL E.2.2 p0) (l3 + 4) (tg g l1 11 (bd2 (pX12_write g h l1 (hI E.2.1 p0 (Int32.toNatClampNeg (l3 + 1))) (hI E.2.1 p0 (Int32.toNatClampNeg (l3 + 2))) (((Int32.toInt64 (hI E.2.1 p0 (Int32.toNatClampNeg (l3 + 3)))) <<< (Int32.toInt64 32 &&& 63)) ||| ((Int32.toInt64 (hI E.2.1 p0 (Int32.toNatClampNeg (l3 + 4)))) &&& 4294967295))) fun x56 h54 => (ix (gL E.2.2 p0) (l3 + 1) (ix (gL E.2.2 p0) (l3 + 2) (ix (gL E.2.2 p0) (l3 + 3) (ix (gL E.2.2 p0) (l3 + 4) (tg g l2 12 (bd2 (pX13_write g h54 l2 (hI E.2.1 p0 (Int32.toNatClampNeg (l3 + 1))) (hI E.2.1 p0 (Int32.toNatClampNeg (l3 + 2))) (((Int32.toInt64 (hI E.2.1 p0 (Int32.toNatClampNeg (l3 + 3)))) <<< (Int32.toInt64 32 &&& 63)) ||| ((Int32.toInt64 (hI E.2.1 p0 (Int32.toNatClampNeg (l3 + 4)))) &&& 4294967295))) fun x64 h62 => (if x56 = x64 then pL_law_b1469 E p0 k18 l1 l2 l3 g h62 else some (0, g, h62))))))))))))) else (if x4 = 5 then ix (gL E.2.2 p0) (l3 + 1) (ix (gL E.2.2 p0) (l3 + 2) (tg g l1 11 (bd2 (pX12_read g h l1 (hI E.2.1 p0 (Int32.toNatClampNeg (l3 + 1))) (hI E.2.1 p0 (Int32.toNatClampNeg (l3 + 2)))) fun x72 h70 => (ix (gL E.2.2 p0) (l3 + 1) (ix (gL E.2.2 p0) (l3 + 2) (tg g l2 12 (bd2 (pX13_read g h70 l2 (hI E.2.1 p0 (Int32.toNatClampNeg (l3 + 1))) (hI E.2.1 p0 (Int32.toNatClampNeg (l3 + 2)))) fun x78 h76 => (if (lg_cmp x72 x78) = 0 then pL_law_b1469 E p0 k18 l1 l2 l3 g h76 else some (0, g, h76))))))))) else (if x4 = 6 then ix (gL E.2.2 p0) (l3 + 1) (ix (gL E.2.2 p0) (l3 + 2) (ix (gL E.2.2 p0) (l3 + 3) (ix (gL E.2.2 p0) (l3 + 4) (ix (gL E.2.2 p0) (l3 + 5) (tg g l1 11 (bd2 (pX12_pour g h l1 (hI E.2.1 p0 (Int32.toNatClampNeg (l3 + 1))) (hI E.2.1 p0 (Int32.toNatClampNeg (l3 + 2))) (hI E.2.1 p0 (Int32.toNatClampNeg (l3 + 3))) (hI E.2.1 p0 (Int32.toNatClampNeg (l3 + 4))) (hI E.2.1 p0 (Int32.toNatClampNeg (l3 + 5)))) fun x89 h87 => (ix (gL E.2.2 p0) (l3 + 1) (ix (gL E.2.2 p0) (l3 + 2) (ix (gL E.2.2 p0) (l3 + 3) (ix (gL E.2.2 p0) (l3 + 4) (ix (gL E.2.2 p0) (l3 + 5) (tg g l2 12 (bd2 (pX13_pour g h87 l2 (hI E.2.1 p0 (Int32.toNatClampNeg (l3 + 1))) (hI E.2.1 p0 (Int32.toNatClampNeg (l3 + 2))) (hI E.2.1 p0 (Int32.toNatClampNeg (l3 + 3))) (hI E.2.1 p0 (Int32.toNatClampNeg (l3 + 4))) (hI E.2.1 p0 (Int32.toNatClampNeg (l3 + 5)))) fun x98 h96 => (if x89 = x98 then pL_law_b1469 E p0 k18 l1 l2 l3 g h96 else some (0, g, h96))))))))))))))) else (if x4 = 7 then ix (gL E.2.2 p0) (l3 + 1) (ix (gL E.2.2 p0) (l3 + 2) (ix (gL E.2.2 p0) (l3 + 3) (ix (gL E.2.2 p0) (l3 + 4) (ix (gL E.2.2 p0) (l3 + 5) (tg g l1 11 (bd2 (pX12_feed g h l1 (hI E.2.1 p0 (Int32.toNatClampNeg (l3 + 1))) (hI E.2.1 p0 (Int32.toNatClampNeg (l3 + 2))) (hI E.2.1 p0 (Int32.toNatClampNeg (l3 + 3))) (hI E.2.1 p0 (Int32.toNatClampNeg (l3 + 4))) (hI E.2.1 p0 (Int32.toNatClampNeg (l3 + 5)))) fun x109 h107 => (ix (gL E.2.2 p0) (l3 + 1) (ix (gL E.2.2 p0) (l3 + 2) (ix (gL E.2.2 p0) (l3 + 3) (ix (gL E.2.2 p0) (l3 + 4) (ix (gL E.2.2 p0) (l3 + 5) (tg g l2 12 (bd2 (pX13_feed g h107 l2 (hI E.2.1 p0 (Int32.toNatClampNeg (l3 + 1))) (hI E.2.1 p0 (Int32.toNatClampNeg (l3 + 2))) (hI E.2.1 p0 (Int32.toNatClampNeg (l3 + 3))) (hI E.2.1 p0 (Int32.toNatClampNeg (l3 + 4))) (hI E.2.1 p0 (Int32.toNatClampNeg (l3 + 5)))) fun x118 h116 => (if x109 = x118 then pL_law_b1469 E p0 k18 l1 l2 l3 g h116 else some (0, g, h116))))))))))))))) else (if x4 = 8 then ix (gL E.2.2 p0) (l3 + 1) (tg g l1 11 (bd3 (pX12_program E g h l1 (hI E.2.1 p0 (Int32.toNatClampNeg (l3 + 1)))) fun x127 g123 h124 => (gq (fun z => z.2.1) g123 (tg E.2.2 p0 20 (ix (gL E.2.2 p0) (l3 + 1) (tg g123 l2 12 (bd2 (pX13_program g123 h124 l2 (hI E.2.1 p0 (Int32.toNatClampNeg (l3 + 1)))) fun x134 h132 => (if x127 = x134 then pL_law_b1469 E p0 k18 l1 l2 l3 g123 h132 else some (0, g123, h132))))))))) else (if x4 = 9 then ix (gL E.2.2 p0) (l3 + 1) (tg g l1 11 (bd (pX12_fault g h l1 (hI E.2.1 p0 (Int32.toNatClampNeg (l3 + 1)))) fun x139 => (ix (gL E.2.2 p0) (l3 + 1) (tg g l2 12 (bd2 (pX13_fault g h l2 (hI E.2.1 p0 (Int32.toNatClampNeg (l3 + 1)))) fun x145 h143 => (if x139 = x145 then pL_law_b1469 E p0 k18 l1 l2 l3 g h143 else some (0, g, h143))))))) else (if x4 = 10 then ix (gL E.2.2 p0) (l3 + 1) (tg g l1 11 (bd2 (pX12_many g h l1 (hI E.2.1 p0 (Int32.toNatClampNeg (l3 + 1)))) fun x152 h150 => (ix (gL E.2.2 p0) (l3 + 1) (tg g l2 12 (bd2 (pX13_many g h150 l2 (hI E.2.1 p0 (Int32.toNatClampNeg (l3 + 1)))) fun x157 h155 => (if x152 = x157 then pL_law_b1469 E p0 k18 l1 l2 l3 g h155 else some (0, g, h155))))))) else (if x4 = 11 then ix (gL E.2.2 p0) (l3 + 1) (ix (gL E.2.2 p0) (l3 + 2) (tg g l1 11 (bd2 (pX12_element g h l1 (hI E.2.1 p0 (Int32.toNatClampNeg (l3 + 1))) (hI E.2.1 p0 (Int32.toNatClampNeg (l3 + 2)))) fun x165 h163 => (ix (gL E.2.2 p0) (l3 + 1) (ix (gL E.2.2 p0) (l3 + 2) (tg g l2 12 (bd2 (pX13_element g h163 l2 (hI E.2.1 p0 (Int32.toNatClampNeg (l3 + 1))) (hI E.2.1 p0 (Int32.toNatClampNeg (l3 + 2)))) fun x171 h169 => (if x165 = x171 then pL_law_b1469 E p0 k18 l1 l2 l3 g h169 else some (0, g, h169))))))))) else (if x4 = 12 then ix (gL E.2.2 p0) (l3 + 1) (tg g l1 11 (bd2 (pX12_scalar g h l1 (hI E.2.1 p0 (Int32.toNatClampNeg (l3 + 1)))) fun x178 h176 => (ix (gL E.2.2 p0) (l3 + 1) (tg g l2 12 (bd2 (pX13_scalar g h176 l2 (hI E.2.1 p0 (Int32.toNatClampNeg (l3 + 1)))) fun x183 h181 => (if x178 = x183 then pL_law_b1469 E p0 k18 l1 l2 l3 g h181 else some (0, g, h181))))))) else (if x4 = 13 then ix (gL E.2.2 p0) (l3 + 1) (tg g l1 11 (bd2 (pX12_word g h l1 (hI E.2.1 p0 (Int32.toNatClampNeg (l3 + 1)))) fun x190 h188 => (ix (gL E.2.2 p0) (l3 + 1) (tg g l2 12 (bd2 (pX13_word g h188 l2 (hI E.2.1 p0 (Int32.toNatClampNeg (l3 + 1)))) fun x195 h193 => (if x190 = x195 then pL_law_b1469 E p0 k18 l1 l2 l3 g h193 else some (0, g, h193))))))) else (if x4 = 14 then ix (gL E.2.2 p0) (l3 + 1) (ix (gL E.2.2 p0) (l3 + 2) (ix (gL E.2.2 p0) (l3 + 3) (ix (gL E.2.2 p0) (l3 + 4) (ix (gL E.2.2 p0) (l3 + 5) (tg g l1 11 (bd2 (pX12_put g h l1 (hI E.2.1 p0 (Int32.toNatClampNeg (l3 + 1))) (hI E.2.1 p0 (Int32.toNatClampNeg (l3 + 2))) (((Int32.toInt64 (hI E.2.1 p0 (Int32.toNatClampNeg (l3 + 3)))) <<< (Int32.toInt64 32 &&& 63)) ||| ((Int32.toInt64 (hI E.2.1 p0 (Int32.toNatClampNeg (l3 + 4)))) &&& 4294967295)) (hI E.2.1 p0 (Int32.toNatClampNeg (l3 + 5)))) fun x206 h204 => (ix (gL E.2.2 p0) (l3 + 1) (ix (gL E.2.2 p0) (l3 + 2) (ix (gL E.2.2 p0) (l3 + 3) (ix (gL E.2.2 p0) (l3 + 4) (ix (gL E.2.2 p0) (l3 + 5) (tg g l2 12 (bd2 (pX13_put g h204 l2 (hI E.2.1 p0 (Int32.toNatClampNeg (l3 + 1))) (hI E.2.1 p0 (Int32.toNatClampNeg (l3 + 2))) (((Int32.toInt64 (hI E.2.1 p0 (Int32.toNatClampNeg (l3 + 3)))) <<< (Int32.toInt64 32 &&& 63)) ||| ((Int32.toInt64 (hI E.2.1 p0 (Int32.toNatClampNeg (l3 + 4)))) &&& 4294967295)) (hI E.2.1 p0 (Int32.toNatClampNeg (l3 + 5)))) fun x215 h213 => (if x206 = x215 then pL_law_b1469 E p0 k18 l1 l2 l3 g h213 else some (0, g, h213))))))))))))))) else (if x4 = 15 then ix (gL E.2.2 p0) (l3 + 1) (ix (gL E.2.2 p0) (l3 + 2) (ix (gL E.2.2 p0) (l3 + 3) (ix (gL E.2.2 p0) (l3 + 4) (tg g l1 11 (bd2 (pX12_give g h l1 (hI E.2.1 p0 (Int32.toNatClampNeg (l3 + 1))) (((Int32.toInt64 (hI E.2.1 p0 (Int32.toNatClampNeg (l3 + 2)))) <<< (Int32.toInt64 32 &&& 63)) ||| ((Int32.toInt64 (hI E.2.1 p0 (Int32.toNatClampNeg (l3 + 3)))) &&& 4294967295)) (hI E.2.1 p0 (Int32.toNatClampNeg (l3 + 4)))) fun x225 h223 => (ix (gL E.2.2 p0) (l3 + 1) (ix (gL E.2.2 p0) (l3 + 2) (ix (gL E.2.2 p0) (l3 + 3) (ix (gL E.2.2 p0) (l3 + 4) (tg g l2 12 (bd2 (pX13_give g h223 l2 (hI E.2.1 p0 (Int32.toNatClampNeg (l3 + 1))) (((Int32.toInt64 (hI E.2.1 p0 (Int32.toNatClampNeg (l3 + 2)))) <<< (Int32.toInt64 32 &&& 63)) ||| ((Int32.toInt64 (hI E.2.1 p0 (Int32.toNatClampNeg (l3 + 3)))) &&& 4294967295)) (hI E.2.1 p0 (Int32.toNatClampNeg (l3 + 4)))) fun x233 h231 => (if x225 = x233 then pL_law_b1469 E p0 k18 l1 l2 l3 g h231 else some (0, g, h231))))))))))))) else (if x4 = 16 then ix (gL E.2.2 p0) (l3 + 1) (ix (gL E.2.2 p0) (l3 + 2) (ix (gL E.2.2 p0) (l3 + 3) (ix (gL E.2.2 p0) (l3 + 4) (tg g l1 11 (bd2 (pX12_poke g h l1 (hI E.2.1 p0 (Int32.toNatClampNeg (l3 + 1))) (((Int32.toInt64 (hI E.2.1 p0 (Int32.toNatClampNeg (l3 + 2)))) <<< (Int32.toInt64 32 &&& 63)) ||| ((Int32.toInt64 (hI E.2.1 p0 (Int32.toNatClampNeg (l3 + 3)))) &&& 4294967295)) (hI E.2.1 p0 (Int32.toNatClampNeg (l3 + 4)))) fun x243 h241 => (ix (gL E.2.2 p0) (l3 + 1) (ix (gL E.2.2 p0) (l3 + 2) (ix (gL E.2.2 p0) (l3 + 3) (ix (gL E.2.2 p0) (l3 + 4) (tg g l2 12 (bd2 (pX13_poke g h241 l2 (hI E.2.1 p0 (Int32.toNatClampNeg (l3 + 1))) (((Int32.toInt64 (hI E.2.1 p0 (Int32.toNatClampNeg (l3 + 2)))) <<< (Int32.toInt64 32 &&& 63)) ||| ((Int32.toInt64 (hI E.2.1 p0 (Int32.toNatClampNeg (l3 + 3)))) &&& 4294967295)) (hI E.2.1 p0 (Int32.toNatClampNeg (l3 + 4)))) fun x251 h249 => (if x243 = x251 then pL_law_b1469 E p0 k18 l1 l2 l3 g h249 else some (0, g, h249))))))))))))) else (if x4 = 17 then ix (gL E.2.2 p0) (l3 + 1) (ix (gL E.2.2 p0) (l3 + 2) (tg g l1 11 (bd2 (pX12_strange g h l1 (hI E.2.1 p0 (Int32.toNatClampNeg (l3 + 1))) (hI E.2.1 p0 (Int32.toNatClampNeg (l3 + 2)))) fun x259 h257 => (ix (gL E.2.2 p0) (l3 + 1) (ix (gL E.2.2 p0) (l3 + 2) (tg g l2 12 (bd2 (pX13_strange g h257 l2 (hI E.2.1 p0 (Int32.toNatClampNeg (l3 + 1))) (hI E.2.1 p0 (Int32.toNatClampNeg (l3 + 2)))) fun x265 h263 => (if x259 = x265 then pL_law_b1469 E p0 k18 l1 l2 l3 g h263 else some (0, g, h263))))))))) else (if x4 = 18 then ix (gL E.2.2 p0) (l3 + 1) (ix (gL E.2.2 p0) (l3 + 2) (ix (gL E.2.2 p0) (l3 + 3) (tg g l1 11 (bd2 (pX12_pokeAll g h l1 (hI E.2.1 p0 (Int32.toNatClampNeg (l3 + 1))) (hI E.2.1 p0 (Int32.toNatClampNeg (l3 + 2))) (hI E.2.1 p0 (Int32.toNatClampNeg (l3 + 3)))) fun x274 h272 => (ix (gL E.2.2 p0) (l3 + 1) (ix (gL E.2.2 p0) (l3 + 2) (ix (gL E.2.2 p0) (l3 + 3) (tg g l2 12 (bd2 (pX13_pokeAll g h272 l2 (hI E.2.1 p0 (Int32.toNatClampNeg (l3 + 1))) (hI E.2.1 p0 (Int32.toNatClampNeg (l3 + 2))) (hI E.2.1 p0 (Int32.toNatClampNeg (l3 + 3)))) fun x281 h279 => (if x274 = x281 then pL_law_b1469 E p0 k18 l1 l2 l3 g h279 else some (0, g, h279))))))))))) else (if x4 = 19 then ix (gL E.2.2 p0) (l3 + 1) (ix (gL E.2.2 p0) (l3 + 2) (ix (gL E.2.2 p0) (l3 + 3) (tg g l1 11 (bd2 (pX12_peekAll g h l1 (hI E.2.1 p0 (Int32.toNatClampNeg (l3 + 1))) (hI E.2.1 p0 (Int32.toNatClampNeg (l3 + 2))) (hI E.2.1 p0 (Int32.toNatClampNeg (l3 + 3)))) fun x290 h288 => (ix (gL E.2.2 p0) (l3 + 1) (ix (gL E.2.2 p0) (l3 + 2) (ix (gL E.2.2 p0) (l3 + 3) (tg g l2 12 (bd2 (pX13_peekAll g h288 l2 (hI E.2.1 p0 (Int32.toNatClampNeg (l3 + 1))) (hI E.2.1 p0 (Int32.toNatClampNeg (l3 + 2))) (hI E.2.1 p0 (Int32.toNatClampNeg (l3 + 3)))) fun x297 h295 => (if x290 = x297 then pL_law_b1469 E p0 k18 l1 l2 l3 g h295 else some (0, g, h295))))))))))) else (if x4 = 20 then ix (gL E.2.2 p0) (l3 + 1) (tg g l1 11 (bd2 (pX12_drop g h l1 (hI E.2.1 p0 (Int32.toNatClampNeg (l3 + 1)))) fun x304 h302 => (ix (gL E.2.2 p0) (l3 + 1) (tg g l2 12 (bd2 (pX13_drop g h302 l2 (hI E.2.1 p0 (Int32.toNatClampNeg (l3 + 1)))) fun x309 h307 => (if x304 = x309 then pL_law_b1469 E p0 k18 l1 l2 l3 g h307 else some (0, g, h307))))))) else (if x4 = 21 then ix (gL E.2.2 p0) (l3 + 1) (ix (gL E.2.2 p0) (l3 + 2) (tg g l1 11 (bd2 (pX12_rule g h l1 (hI E.2.1 p0 (Int32.toNatClampNeg (l3 + 1))) (hI E.2.1 p0 (Int32.toNatClampNeg (l3 + 2)))) fun x317 h315 => (ix (gL E.2.2 p0) (l3 + 1) (ix (gL E.2.2 p0) (l3 + 2) (tg g l2 12 (bd2 (pX13_rule g h315 l2 (hI E.2.1 p0 (Int32.toNatClampNeg (l3 + 1))) (hI E.2.1 p0 (Int32.toNatClampNeg (l3 + 2)))) fun x323 h321 => (if x317 = x323 then pL_law_b1469 E p0 k18 l1 l2 l3 g h321 else some (0, g, h321))))))))) else (if x4 = 22 then tg g l1 11 (bd2 (pX12_run E g h l1) fun x329 h327 => (tg g l2 12 (bd2 (pX13_run g h327 l2) fun x333 h331 => (if x329 = x333 then pL_law_b1469 E p0 k18 l1 l2 l3 g h331 else some (0, g, h331))))) else (if x4 = 23 then ix (gL E.2.2 p0) (l3 + 1) (tg g l1 11 (bd2 (pX12_ran g h l1 (hI E.2.1 p0 (Int32.toNatClampNeg (l3 + 1)))) fun x340 h338 => (ix (gL E.2.2 p0) (l3 + 1) (tg g l2 12 (bd2 (pX13_ran g h338 l2 (hI E.2.1 p0 (Int32.toNatClampNeg (l3 + 1)))) fun x345 h343 => (if x340 = x345 then pL_law_b1469 E p0 k18 l1 l2 l3 g h343 else some (0, g, h343))))))) else (if x4 = 24 then ix (gL E.2.2 p0) (l3 + 1) (ix (gL E.2.2 p0) (l3 + 2) (tg g l1 11 (bd2 (pX12_time g h l1 (hI E.2.1 p0 (Int32.toNatClampNeg (l3 + 1))) (hI E.2.1 p0 (Int32.toNatClampNeg (l3 + 2)))) fun x353 h351 => (ix (gL E.2.2 p0) (l3 + 1) (ix (gL E.2.2 p0) (l3 + 2) (tg g l2 12 (bd2 (pX13_time g h351 l2 (hI E.2.1 p0 (Int32.toNatClampNeg (l3 + 1))) (hI E.2.1 p0 (Int32.toNatClampNeg (l3 + 2)))) fun x359 h357 => (if x353 = x359 then pL_law_b1469 E p0 k18 l1 l2 l3 g h357 else some (0, g, h357))))))))) else (if x4 = 25 then ix (gL E.2.2 p0) (l3 + 1) (ix (gL E.2.2 p0) (l3 + 2) (tg g l1 11 (bd2 (pX12_sum g h l1 (hI E.2.1 p0 (Int32.toNatClampNeg (l3 + 1))) (hI E.2.1 p0 (Int32.toNatClampNeg (l3 + 2)))) fun x367 h365 => (ix (gL E.2.2 p0) (l3 + 1) (ix (gL E.2.2 p0) (l3 + 2) (tg g l2 12 (bd2 (pX13_sum g h365 l2 (hI E.2.1 p0 (Int32.toNatClampNeg (l3 + 1))) (hI E.2.1 p0 (Int32.toNatClampNeg (l3 + 2)))) fun x373 h371 => (if x367 = x373 then pL_law_b1469 E p0 k18 l1 l2 l3 g h371 else some (0, g, h371))))))))) else (if x4 = 26 then ix (gL E.2.2 p0) (l3 + 1) (tg g l1 11 (bd2 (pX12_sums g h l1 (hI E.2.1 p0 (Int32.toNatClampNeg (l3 + 1)))) fun x380 h378 => (ix (gL E.2.2 p0) (l3 + 1) (tg g l2 12 (bd2 (pX13_sums g h378 l2 (hI E.2.1 p0 (Int32.toNatClampNeg (l3 + 1)))) fun x385 h383 => (if x380 = x385 then pL_law_b1469 E p0 k18 l1 l2 l3 g h383 else some (0, g, h383))))))) else (if x4 = 27 then ix (gL E.2.2 p0) (l3 + 1) (ix (gL E.2.2 p0) (l3 + 2) (tg g l1 11 (bd2 (pX12_roundOf g h l1 (hI E.2.1 p0 (Int32.toNatClampNeg (l3 + 1))) (hI E.2.1 p0 (Int32.toNatClampNeg (l3 + 2)))) fun x393 h391 => (ix (gL E.2.2 p0) (l3 + 1) (ix (gL E.2.2 p0) (l3 + 2) (tg g l2 12 (bd2 (pX13_roundOf g h391 l2 (hI E.2.1 p0 (Int32.toNatClampNeg (l3 + 1))) (hI E.2.1 p0 (Int32.toNatClampNeg (l3 + 2)))) fun x399 h397 => (if x393 = x399 then pL_law_b1469 E p0 k18 l1 l2 l3 g h397 else some (0, g, h397))))))))) else (if x4 = 28 then ix (gL E.2.2 p0) (l3 + 1) (ix (gL E.2.2 p0) (l3 + 2) (tg g l1 11 (bd2 (pX12_partnerOf g h l1 (hI E.2.1 p0 (Int32.toNatClampNeg (l3 + 1))) (hI E.2.1 p0 (Int32.toNatClampNeg (l3 + 2)))) fun x407 h405 => (ix (gL E.2.2 p0) (l3 + 1) (ix (gL E.2.2 p0) (l3 + 2) (tg g l2 12 (bd2 (pX13_partnerOf g h405 l2 (hI E.2.1 p0 (Int32.toNatClampNeg (l3 + 1))) (hI E.2.1 p0 (Int32.toNatClampNeg (l3 + 2)))) fun x413 h411 => (if x407 = x413 then pL_law_b1469 E p0 k18 l1 l2 l3 g h411 else some (0, g, h411))))))))) else (if x4 = 29 then ix (gL E.2.2 p0) (l3 + 1) (ix (gL E.2.2 p0) (l3 + 2) (ix (gL E.2.2 p0) (l3 + 3) (tg g l1 11 (bd2 (pX12_stalls g h l1 (hI E.2.1 p0 (Int32.toNatClampNeg (l3 + 1))) (hI E.2.1 p0 (Int32.toNatClampNeg (l3 + 2))) (hI E.2.1 p0 (Int32.toNatClampNeg (l3 + 3)))) fun x422 h420 => (ix (gL E.2.2 p0) (l3 + 1) (ix (gL E.2.2 p0) (l3 + 2) (ix (gL E.2.2 p0) (l3 + 3) (tg g l2 12 (bd2 (pX13_stalls g h420 l2 (hI E.2.1 p0 (Int32.toNatClampNeg (l3 + 1))) (hI E.2.1 p0 (Int32.toNatClampNeg (l3 + 2))) (hI E.2.1 p0 (Int32.toNatClampNeg (l3 + 3)))) fun x429 h427 => (if x422 = x429 then pL_law_b1469 E p0 k18 l1 l2 l3 g h427 else some (0, g, h427))))))))))) else (if x4 = 30 then ix (gL E.2.2 p0) (l3 + 1) (ix (gL E.2.2 p0) (l3 + 2) (ix (gL E.2.2 p0) (l3 + 3) (tg g l1 11 (bd2 (pX12_banksFor g h l1 (hI E.2.1 p0 (Int32.toNatClampNeg (l3 + 1))) (hI E.2.1 p0 (Int32.toNatClampNeg (l3 + 2))) (hI E.2.1 p0 (Int32.toNatClampNeg (l3 + 3)))) fun x438 h436 => (ix (gL E.2.2 p0) (l3 + 1) (ix (gL E.2.2 p0) (l3 + 2) (ix (gL E.2.2 p0) (l3 + 3) (tg g l2 12 (bd2 (pX13_banksFor g h436 l2 (hI E.2.1 p0 (Int32.toNatClampNeg (l3 + 1))) (hI E.2.1 p0 (Int32.toNatClampNeg (l3 + 2))) (hI E.2.1 p0 (Int32.toNatClampNeg (l3 + 3)))) fun x445 h443 => (if x438 = x445 then pL_law_b1469 E p0 k18 l1 l2 l3 g h443 else some (0, g, h443))))))))))) else (if x4 = 31 then ix (gL E.2.2 p0) (l3 + 1) (ix (gL E.2.2 p0) (l3 + 2) (tg g l1 11 (bd2 (pX12_worst g h l1 (hI E.2.1 p0 (Int32.toNatClampNeg (l3 + 1))) (hI E.2.1 p0 (Int32.toNatClampNeg (l3 + 2)))) fun x453 h451 => (ix (gL E.2.2 p0) (l3 + 1) (ix (gL E.2.2 p0) (l3 + 2) (tg g l2 12 (bd2 (pX13_worst g h451 l2 (hI E.2.1 p0 (Int32.toNatClampNeg (l3 + 1))) (hI E.2.1 p0 (Int32.toNatClampNeg (l3 + 2)))) fun x459 h457 => (if x453 = x459 then pL_law_b1469 E p0 k18 l1 l2 l3 g h457 else some (0, g, h457))))))))) else (if x4 = 32 then ix (gL E.2.2 p0) (l3 + 1) (ix (gL E.2.2 p0) (l3 + 2) (tg g l1 11 (bd2 (pX12_depends E g h l1 (hI E.2.1 p0 (Int32.toNatClampNeg (l3 + 1))) (hI E.2.1 p0 (Int32.toNatClampNeg (l3 + 2)))) fun x467 h465 => (ix (gL E.2.2 p0) (l3 + 1) (ix (gL E.2.2 p0) (l3 + 2) (tg g l2 12 (bd2 (pX13_depends g h465 l2 (hI E.2.1 p0 (Int32.toNatClampNeg (l3 + 1))) (hI E.2.1 p0 (Int32.toNatClampNeg (l3 + 2)))) fun x473 h471 => (if x467 = x473 then pL_law_b1469 E p0 k18 l1 l2 l3 g h471 else some (0, g, h471))))))))) else (if x4 = 33 then ix (gL E.2.2 p0) (l3 + 1) (tg g l1 11 (bd2 (pX12_swapGain E g h l1 (hI E.2.1 p0 (Int32.toNatClampNeg (l3 + 1)))) fun x480 h478 => (ix (gL E.2.2 p0) (l3 + 1) (tg g l2 12 (bd2 (pX13_swapGain g h478 l2 (hI E.2.1 p0 (Int32.toNatClampNeg (l3 + 1)))) fun x485 h483 => (if x480 = x485 then pL_law_b1469 E p0 k18 l1 l2 l3 g h483 else some (0, g, h483))))))) else (if x4 = 34 then tg g l1 11 (bd2 (pX12_bestSwap E g h l1) fun x491 h489 => (tg g l2 12 (bd2 (pX13_bestSwap g h489 l2) fun x495 h493 => (if x491 = x495 then pL_law_b1469 E p0 k18 l1 l2 l3 g h493 else some (0, g, h493))))) else (if x4 = 35 then tg g l1 11 (bd2 (pX12_mark g h l1) fun x501 h499 => (tg g l2 12 (bd2 (pX13_mark g h499 l2) fun x505 h503 => (if x501 = x505 then pL_law_b1469 E p0 k18 l1 l2 l3 g h503 else some (0, g, h503))))) else (if x4 = 36 then tg g l1 11 (bd2 (pX12_back g h l1) fun x511 h509 => (tg g l2 12 (bd2 (pX13_back g h509 l2) fun x515 h513 => (if x511 = x515 then pL_law_b1469 E p0 k18 l1 l2 l3 g h513 else some (0, g, h513))))) else (pL_law_b1469 E p0 k18 l1 l2 l3 g h))))))))))))))))))))))))))))))))))))))))
set_option maxRecDepth 10000 in
set_option maxHeartbeats 4000000 in
theorem pL_law_b18_ok {X : Cx} {G : Gx} {dk : Nat} {b : Nat} {g0 : MT} {h0 : CT} {p0 : Nat} {k18 : Nat → Nat → Int32 → MT → CT → Option ((Int32) × MT × CT)} (Z : Zw X G dk b g0 h0) (hK : 131 ≤ dk) {E : EC} (hE : G.2.2.2 = E) (hk18 : ∀ (l1 : Nat) (l2 : Nat) (l3 : Int32) (g : MT) (h : CT), RM X g → k18 l1 l2 l3 g h = some (1, g0, h0) → J X g h 18 [(0, va_rf (some p0)), (1, va_rf (some l1)), (2, va_rf (some l2)), (3, .int l3)] []) (l1 : Nat) (l2 : Nat) (l3 : Int32) (g : MT) (h : CT) (M : RM X g) (hf : pL_law_b18 E p0 k18 l1 l2 l3 g h = some (1, g0, h0)) : J X g h 18 [(0, va_rf (some p0)), (1, va_rf (some l1)), (2, va_rf (some l2)), (3, .int l3)] [] := by
  unfold pL_law_b18 at hf
  refine J_iload_n Z.1 3 dL_law_18 rfl rfl ?_
  refine J_aload_n Z.1 0 dL_law_19 rfl rfl ?_
  replace hf := tg_i hf
  obtain ⟨t1, hf⟩ := hf
  rw [← wE Z hE] at t1
  refine J_alenK (t := 0) Z.1 dL_law_20 t1 rfl ?_
  rw [wE Z hE]
  refine J_bipush Z.1 (v := 6) (by decide) dL_law_21 ?_
  refine J_isub Z.1 dL_law_23 ?_
  refine J_icmp_gt Z.1 1475 dL_law_24 (by decide) (fun c2 => ?_) (fun c2 => ?_)
  · rw [if_pos c2] at hf
    refine J_iconst Z.1 (v := 1) (by decide) dL_law_1475 ?_
    cases hf
    exact J_wret Z dL_law_1476
  · rw [if_neg c2] at hf
    refine J_aload_n Z.1 0 dL_law_27 rfl rfl ?_
    refine J_iload_n Z.1 3 dL_law_28 rfl rfl ?_
    replace hf := ix_i hf
    obtain ⟨i3, hf⟩ := hf
    refine J_ialdK Z.1 dL_law_29 t1 (by rw [wE Z hE]; exact i3) ?_
    rw [wE Z hE]
    refine J_bipush Z.1 (v := 63) (by decide) dL_law_30 ?_
    refine J_iand Z.1 dL_law_32 ?_
    refine J_ti (fun x4 ex4 => ?_)
    replace hf := lt_i hf x4 ex4
    by_cases c5 : x4 = 0
    · rw [if_pos c5] at hf
      refine J_tabIn (off := 163) Z.1 196 dL_law_33 (by rw [c5]; decide) (by rw [c5]; decide) (by rw [c5]; decide) (by decide) ?_
      refine J_aload_n Z.1 1 dL_law_196 rfl rfl ?_
      replace hf := tg_i hf
      obtain ⟨t6, hf⟩ := hf
      replace hf := bd_i hf
      obtain ⟨x7, q8, hf⟩ := hf
      refine J_callV (ci := 10) (as := []) (rest := []) (sy := [.int x7]) Z.1 dL_law_197 cw_L_13 (pX12_status_ok G (dk - 1) (by omega) q8) rfl rfl t6 (wG Z) rfl (by decide) (wF Z (by omega)) (wO Z (by omega) (by decide)) (zM _) M M rfl rfl ?_
      refine J_aload_n Z.1 2 dL_law_200 rfl rfl ?_
      replace hf := tg_i hf
      obtain ⟨t9, hf⟩ := hf
      replace hf := bd2_i hf
      obtain ⟨x12, h10, q11, hf⟩ := hf
      refine J_callV (ci := 11) (as := []) (rest := [.int x7]) (sy := [.int x12, .int x7]) Z.1 dL_law_201 cw_L_17 (pX13_status_ok G (dk - 1) (by omega) q11) rfl rfl t9 (wG Z) rfl (by simp [cat_i, cat_l, cat_d, cat_rf]) (wF Z (by omega)) (wO Z (by omega) (by decide)) (zM _) M M rfl rfl ?_
      refine J_icmp_eq Z.1 1469 dL_law_204 (by decide) (fun c13 => ?_) (fun c13 => ?_)
      · rw [if_pos c13] at hf
        exact pL_law_b1469_ok Z hK hE hk18 _ _ _ _ _ M hf
      · rw [if_neg c13] at hf
        refine J_iconst Z.1 (v := 0) (by decide) dL_law_207 ?_
        exact absurd (congrArg Prod.fst (Option.some.inj hf)) (show ¬ ((0 : Int32) = 1) from by decide)
    rw [if_neg c5] at hf
    by_cases c14 : x4 = 1
    · rw [if_pos c14] at hf
      refine J_tabIn (off := 176) Z.1 209 dL_law_33 (by rw [c14]; decide) (by rw [c14]; decide) (by rw [c14]; decide) (by decide) ?_
      refine J_aload_n Z.1 1 dL_law_209 rfl rfl ?_
      replace hf := tg_i hf
      obtain ⟨t15, hf⟩ := hf
      replace hf := bd_i hf
      obtain ⟨x16, q17, hf⟩ := hf
      refine J_callV (ci := 10) (as := []) (rest := []) (sy := [.long x16]) Z.1 dL_law_210 cw_L_18 (pX12_mantissa_ok G (dk - 1) (by omega) q17) rfl rfl t15 (wG Z) rfl (by decide) (wF Z (by omega)) (wO Z (by omega) (by decide)) (zM _) M M rfl rfl ?_
      refine J_aload_n Z.1 2 dL_law_213 rfl rfl ?_
      replace hf := tg_i hf
      obtain ⟨t18, hf⟩ := hf
      replace hf := bd2_i hf
      obtain ⟨x21, h19, q20, hf⟩ := hf
      refine J_callV (ci := 11) (as := []) (rest := [.long x16]) (sy := [.long x21, .long x16]) Z.1 dL_law_214 cw_L_22 (pX13_mantissa_ok G (dk - 1) (by omega) q20) rfl rfl t18 (wG Z) rfl (by simp [cat_i, cat_l, cat_d, cat_rf]) (wF Z (by omega)) (wO Z (by omega) (by decide)) (zM _) M M rfl rfl ?_
      refine J_lcmp Z.1 dL_law_217 ?_
      refine J_if_eq Z.1 1469 dL_law_218 (by decide) (fun c22 => ?_) (fun c22 => ?_)
      · rw [if_pos c22] at hf
        exact pL_law_b1469_ok Z hK hE hk18 _ _ _ _ _ M hf
      · rw [if_neg c22] at hf
        refine J_iconst Z.1 (v := 0) (by decide) dL_law_221 ?_
        exact absurd (congrArg Prod.fst (Option.some.inj hf)) (show ¬ ((0 : Int32) = 1) from by decide)
    rw [if_neg c14] at hf
    by_cases c23 : x4 = 2
    · rw [if_pos c23] at hf
      refine J_tabIn (off := 190) Z.1 223 dL_law_33 (by rw [c23]; decide) (by rw [c23]; decide) (by rw [c23]; decide) (by decide) ?_
      refine J_aload_n Z.1 1 dL_law_223 rfl rfl ?_
      replace hf := tg_i hf
      obtain ⟨t24, hf⟩ := hf
      replace hf := bd_i hf
      obtain ⟨x25, q26, hf⟩ := hf
      refine J_callV (ci := 10) (as := []) (rest := []) (sy := [.int x25]) Z.1 dL_law_224 cw_L_23 (pX12_exponent_ok G (dk - 1) (by omega) q26) rfl rfl t24 (wG Z) rfl (by decide) (wF Z (by omega)) (wO Z (by omega) (by decide)) (zM _) M M rfl rfl ?_
      refine J_aload_n Z.1 2 dL_law_227 rfl rfl ?_
      replace hf := tg_i hf
      obtain ⟨t27, hf⟩ := hf
      replace hf := bd2_i hf
      obtain ⟨x30, h28, q29, hf⟩ := hf
      refine J_callV (ci := 11) (as := []) (rest := [.int x25]) (sy := [.int x30, .int x25]) Z.1 dL_law_228 cw_L_26 (pX13_exponent_ok G (dk - 1) (by omega) q29) rfl rfl t27 (wG Z) rfl (by simp [cat_i, cat_l, cat_d, cat_rf]) (wF Z (by omega)) (wO Z (by omega) (by decide)) (zM _) M M rfl rfl ?_
      refine J_icmp_eq Z.1 1469 dL_law_231 (by decide) (fun c31 => ?_) (fun c31 => ?_)
      · rw [if_pos c31] at hf
        exact pL_law_b1469_ok Z hK hE hk18 _ _ _ _ _ M hf
      · rw [if_neg c31] at hf
        refine J_iconst Z.1 (v := 0) (by decide) dL_law_234 ?_
        exact absurd (congrArg Prod.fst (Option.some.inj hf)) (show ¬ ((0 : Int32) = 1) from by decide)
    rw [if_neg c23] at hf
    by_cases c32 : x4 = 3
    · rw [if_pos c32] at hf
      refine J_tabIn (off := 203) Z.1 236 dL_law_33 (by rw [c32]; decide) (by rw [c32]; decide) (by rw [c32]; decide) (by decide) ?_
      refine J_aload_n Z.1 1 dL_law_236 rfl rfl ?_
      refine J_aload_n Z.1 0 dL_law_237 rfl rfl ?_
      refine J_iload_n Z.1 3 dL_law_238 rfl rfl ?_
      refine J_iconst Z.1 (v := 1) (by decide) dL_law_239 ?_
      refine J_iadd Z.1 dL_law_240 ?_
      replace hf := ix_i hf
      obtain ⟨i33, hf⟩ := hf
      refine J_ialdK Z.1 dL_law_241 t1 (by rw [wE Z hE]; exact i33) ?_
      rw [wE Z hE]
      refine J_aload_n Z.1 0 dL_law_242 rfl rfl ?_
      refine J_iload_n Z.1 3 dL_law_243 rfl rfl ?_
      refine J_iconst Z.1 (v := 2) (by decide) dL_law_244 ?_
      refine J_iadd Z.1 dL_law_245 ?_
      replace hf := ix_i hf
      obtain ⟨i34, hf⟩ := hf
      refine J_ialdK Z.1 dL_law_246 t1 (by rw [wE Z hE]; exact i34) ?_
      rw [wE Z hE]
      refine J_aload_n Z.1 0 dL_law_247 rfl rfl ?_
      refine J_iload_n Z.1 3 dL_law_248 rfl rfl ?_
      refine J_iconst Z.1 (v := 3) (by decide) dL_law_249 ?_
      refine J_iadd Z.1 dL_law_250 ?_
      replace hf := ix_i hf
      obtain ⟨i35, hf⟩ := hf
      refine J_ialdK Z.1 dL_law_251 t1 (by rw [wE Z hE]; exact i35) ?_
      rw [wE Z hE]
      replace hf := tg_i hf
      obtain ⟨t36, hf⟩ := hf
      replace hf := bd2_i hf
      obtain ⟨x39, h37, q38, hf⟩ := hf
      refine J_callV (ci := 10) (as := [.int (hI E.2.1 p0 (Int32.toNatClampNeg (l3 + 1))), .int (hI E.2.1 p0 (Int32.toNatClampNeg (l3 + 2))), .int (hI E.2.1 p0 (Int32.toNatClampNeg (l3 + 3)))]) (rest := []) (sy := [.int x39]) Z.1 dL_law_252 cw_L_27 (pX12_tray_ok G (dk - 1) (by omega) q38) rfl rfl t36 (wG Z) rfl (by decide) (wF Z (by omega)) (wO Z (by omega) (by decide)) (zM _) M M rfl rfl ?_
      refine J_aload_n Z.1 2 dL_law_255 rfl rfl ?_
      refine J_aload_n Z.1 0 dL_law_256 rfl rfl ?_
      refine J_iload_n Z.1 3 dL_law_257 rfl rfl ?_
      refine J_iconst Z.1 (v := 1) (by decide) dL_law_258 ?_
      refine J_iadd Z.1 dL_law_259 ?_
      replace hf := ix_i hf
      obtain ⟨i40, hf⟩ := hf
      refine J_ialdK Z.1 dL_law_260 t1 (by rw [wE Z hE]; exact i40) ?_
      rw [wE Z hE]
      refine J_aload_n Z.1 0 dL_law_261 rfl rfl ?_
      refine J_iload_n Z.1 3 dL_law_262 rfl rfl ?_
      refine J_iconst Z.1 (v := 2) (by decide) dL_law_263 ?_
      refine J_iadd Z.1 dL_law_264 ?_
      replace hf := ix_i hf
      obtain ⟨i41, hf⟩ := hf
      refine J_ialdK Z.1 dL_law_265 t1 (by rw [wE Z hE]; exact i41) ?_
      rw [wE Z hE]
      refine J_aload_n Z.1 0 dL_law_266 rfl rfl ?_
      refine J_iload_n Z.1 3 dL_law_267 rfl rfl ?_
      refine J_iconst Z.1 (v := 3) (by decide) dL_law_268 ?_
      refine J_iadd Z.1 dL_law_269 ?_
      replace hf := ix_i hf
      obtain ⟨i42, hf⟩ := hf
      refine J_ialdK Z.1 dL_law_270 t1 (by rw [wE Z hE]; exact i42) ?_
      rw [wE Z hE]
      replace hf := tg_i hf
      obtain ⟨t43, hf⟩ := hf
      replace hf := bd2_i hf
      obtain ⟨x46, h44, q45, hf⟩ := hf
      refine J_callV (ci := 11) (as := [.int (hI E.2.1 p0 (Int32.toNatClampNeg (l3 + 1))), .int (hI E.2.1 p0 (Int32.toNatClampNeg (l3 + 2))), .int (hI E.2.1 p0 (Int32.toNatClampNeg (l3 + 3)))]) (rest := [.int x39]) (sy := [.int x46, .int x39]) Z.1 dL_law_271 cw_L_31 (pX13_tray_ok G (dk - 1) (by omega) q45) rfl rfl t43 (wG Z) rfl (by simp [cat_i, cat_l, cat_d, cat_rf]) (wF Z (by omega)) (wO Z (by omega) (by decide)) (zM _) M M rfl rfl ?_
      refine J_icmp_eq Z.1 1469 dL_law_274 (by decide) (fun c47 => ?_) (fun c47 => ?_)
      · rw [if_pos c47] at hf
        exact pL_law_b1469_ok Z hK hE hk18 _ _ _ _ _ M hf
      · rw [if_neg c47] at hf
        refine J_iconst Z.1 (v := 0) (by decide) dL_law_277 ?_
        exact absurd (congrArg Prod.fst (Option.some.inj hf)) (show ¬ ((0 : Int32) = 1) from by decide)
    rw [if_neg c32] at hf
    by_cases c48 : x4 = 4
    · rw [if_pos c48] at hf
      refine J_tabIn (off := 246) Z.1 279 dL_law_33 (by rw [c48]; decide) (by rw [c48]; decide) (by rw [c48]; decide) (by decide) ?_
      refine J_aload_n Z.1 1 dL_law_279 rfl rfl ?_
      refine J_aload_n Z.1 0 dL_law_280 rfl rfl ?_
      refine J_iload_n Z.1 3 dL_law_281 rfl rfl ?_
      refine J_iconst Z.1 (v := 1) (by decide) dL_law_282 ?_
      refine J_iadd Z.1 dL_law_283 ?_
      replace hf := ix_i hf
      obtain ⟨i49, hf⟩ := hf
      refine J_ialdK Z.1 dL_law_284 t1 (by rw [wE Z hE]; exact i49) ?_
      rw [wE Z hE]
      refine J_aload_n Z.1 0 dL_law_285 rfl rfl ?_
      refine J_iload_n Z.1 3 dL_law_286 rfl rfl ?_
      refine J_iconst Z.1 (v := 2) (by decide) dL_law_287 ?_
      refine J_iadd Z.1 dL_law_288 ?_
      replace hf := ix_i hf
      obtain ⟨i50, hf⟩ := hf
      refine J_ialdK Z.1 dL_law_289 t1 (by rw [wE Z hE]; exact i50) ?_
      rw [wE Z hE]
      refine J_aload_n Z.1 0 dL_law_290 rfl rfl ?_
      refine J_iload_n Z.1 3 dL_law_291 rfl rfl ?_
      refine J_iconst Z.1 (v := 3) (by decide) dL_law_292 ?_
      refine J_iadd Z.1 dL_law_293 ?_
      replace hf := ix_i hf
      obtain ⟨i51, hf⟩ := hf
      refine J_ialdK Z.1 dL_law_294 t1 (by rw [wE Z hE]; exact i51) ?_
      rw [wE Z hE]
      refine J_i2l Z.1 dL_law_295 ?_
      refine J_bipush Z.1 (v := 32) (by decide) dL_law_296 ?_
      refine J_lshl Z.1 dL_law_298 ?_
      refine J_aload_n Z.1 0 dL_law_299 rfl rfl ?_
      refine J_iload_n Z.1 3 dL_law_300 rfl rfl ?_
      refine J_iconst Z.1 (v := 4) (by decide) dL_law_301 ?_
      refine J_iadd Z.1 dL_law_302 ?_
      replace hf := ix_i hf
      obtain ⟨i52, hf⟩ := hf
      refine J_ialdK Z.1 dL_law_303 t1 (by rw [wE Z hE]; exact i52) ?_
      rw [wE Z hE]
      refine J_i2l Z.1 dL_law_304 ?_
      refine J_ldc2 Z.1 q_2175 dL_law_305 ?_
      refine J_land Z.1 dL_law_308 ?_
      refine J_lor Z.1 dL_law_309 ?_
      replace hf := tg_i hf
      obtain ⟨t53, hf⟩ := hf
      replace hf := bd2_i hf
      obtain ⟨x56, h54, q55, hf⟩ := hf
      refine J_callV (ci := 10) (as := [.int (hI E.2.1 p0 (Int32.toNatClampNeg (l3 + 1))), .int (hI E.2.1 p0 (Int32.toNatClampNeg (l3 + 2))), .long (((Int32.toInt64 (hI E.2.1 p0 (Int32.toNatClampNeg (l3 + 3)))) <<< (Int32.toInt64 32 &&& 63)) ||| ((Int32.toInt64 (hI E.2.1 p0 (Int32.toNatClampNeg (l3 + 4)))) &&& 4294967295))]) (rest := []) (sy := [.int x56]) Z.1 dL_law_310 cw_L_34 (pX12_write_ok G (dk - 1) (by omega) q55) rfl rfl t53 (wG Z) rfl (by decide) (wF Z (by omega)) (wO Z (by omega) (by decide)) (zM _) M M rfl rfl ?_
      refine J_aload_n Z.1 2 dL_law_313 rfl rfl ?_
      refine J_aload_n Z.1 0 dL_law_314 rfl rfl ?_
      refine J_iload_n Z.1 3 dL_law_315 rfl rfl ?_
      refine J_iconst Z.1 (v := 1) (by decide) dL_law_316 ?_
      refine J_iadd Z.1 dL_law_317 ?_
      replace hf := ix_i hf
      obtain ⟨i57, hf⟩ := hf
      refine J_ialdK Z.1 dL_law_318 t1 (by rw [wE Z hE]; exact i57) ?_
      rw [wE Z hE]
      refine J_aload_n Z.1 0 dL_law_319 rfl rfl ?_
      refine J_iload_n Z.1 3 dL_law_320 rfl rfl ?_
      refine J_iconst Z.1 (v := 2) (by decide) dL_law_321 ?_
      refine J_iadd Z.1 dL_law_322 ?_
      replace hf := ix_i hf
      obtain ⟨i58, hf⟩ := hf
      refine J_ialdK Z.1 dL_law_323 t1 (by rw [wE Z hE]; exact i58) ?_
      rw [wE Z hE]
      refine J_aload_n Z.1 0 dL_law_324 rfl rfl ?_
      refine J_iload_n Z.1 3 dL_law_325 rfl rfl ?_
      refine J_iconst Z.1 (v := 3) (by decide) dL_law_326 ?_
      refine J_iadd Z.1 dL_law_327 ?_
      replace hf := ix_i hf
      obtain ⟨i59, hf⟩ := hf
      refine J_ialdK Z.1 dL_law_328 t1 (by rw [wE Z hE]; exact i59) ?_
      rw [wE Z hE]
      refine J_i2l Z.1 dL_law_329 ?_
      refine J_bipush Z.1 (v := 32) (by decide) dL_law_330 ?_
      refine J_lshl Z.1 dL_law_332 ?_
      refine J_aload_n Z.1 0 dL_law_333 rfl rfl ?_
      refine J_iload_n Z.1 3 dL_law_334 rfl rfl ?_
      refine J_iconst Z.1 (v := 4) (by decide) dL_law_335 ?_
      refine J_iadd Z.1 dL_law_336 ?_
      replace hf := ix_i hf
      obtain ⟨i60, hf⟩ := hf
      refine J_ialdK Z.1 dL_law_337 t1 (by rw [wE Z hE]; exact i60) ?_
      rw [wE Z hE]
      refine J_i2l Z.1 dL_law_338 ?_
      refine J_ldc2 Z.1 q_2175 dL_law_339 ?_
      refine J_land Z.1 dL_law_342 ?_
      refine J_lor Z.1 dL_law_343 ?_
      replace hf := tg_i hf
      obtain ⟨t61, hf⟩ := hf
      replace hf := bd2_i hf
      obtain ⟨x64, h62, q63, hf⟩ := hf
      refine J_callV (ci := 11) (as := [.int (hI E.2.1 p0 (Int32.toNatClampNeg (l3 + 1))), .int (hI E.2.1 p0 (Int32.toNatClampNeg (l3 + 2))), .long (((Int32.toInt64 (hI E.2.1 p0 (Int32.toNatClampNeg (l3 + 3)))) <<< (Int32.toInt64 32 &&& 63)) ||| ((Int32.toInt64 (hI E.2.1 p0 (Int32.toNatClampNeg (l3 + 4)))) &&& 4294967295))]) (rest := [.int x56]) (sy := [.int x64, .int x56]) Z.1 dL_law_344 cw_L_38 (pX13_write_ok G (dk - 1) (by omega) q63) rfl rfl t61 (wG Z) rfl (by simp [cat_i, cat_l, cat_d, cat_rf]) (wF Z (by omega)) (wO Z (by omega) (by decide)) (zM _) M M rfl rfl ?_
      refine J_icmp_eq Z.1 1469 dL_law_347 (by decide) (fun c65 => ?_) (fun c65 => ?_)
      · rw [if_pos c65] at hf
        exact pL_law_b1469_ok Z hK hE hk18 _ _ _ _ _ M hf
      · rw [if_neg c65] at hf
        refine J_iconst Z.1 (v := 0) (by decide) dL_law_350 ?_
        exact absurd (congrArg Prod.fst (Option.some.inj hf)) (show ¬ ((0 : Int32) = 1) from by decide)
    rw [if_neg c48] at hf
    by_cases c66 : x4 = 5
    · rw [if_pos c66] at hf
      refine J_tabIn (off := 319) Z.1 352 dL_law_33 (by rw [c66]; decide) (by rw [c66]; decide) (by rw [c66]; decide) (by decide) ?_
      refine J_aload_n Z.1 1 dL_law_352 rfl rfl ?_
      refine J_aload_n Z.1 0 dL_law_353 rfl rfl ?_
      refine J_iload_n Z.1 3 dL_law_354 rfl rfl ?_
      refine J_iconst Z.1 (v := 1) (by decide) dL_law_355 ?_
      refine J_iadd Z.1 dL_law_356 ?_
      replace hf := ix_i hf
      obtain ⟨i67, hf⟩ := hf
      refine J_ialdK Z.1 dL_law_357 t1 (by rw [wE Z hE]; exact i67) ?_
      rw [wE Z hE]
      refine J_aload_n Z.1 0 dL_law_358 rfl rfl ?_
      refine J_iload_n Z.1 3 dL_law_359 rfl rfl ?_
      refine J_iconst Z.1 (v := 2) (by decide) dL_law_360 ?_
      refine J_iadd Z.1 dL_law_361 ?_
      replace hf := ix_i hf
      obtain ⟨i68, hf⟩ := hf
      refine J_ialdK Z.1 dL_law_362 t1 (by rw [wE Z hE]; exact i68) ?_
      rw [wE Z hE]
      replace hf := tg_i hf
      obtain ⟨t69, hf⟩ := hf
      replace hf := bd2_i hf
      obtain ⟨x72, h70, q71, hf⟩ := hf
      refine J_callV (ci := 10) (as := [.int (hI E.2.1 p0 (Int32.toNatClampNeg (l3 + 1))), .int (hI E.2.1 p0 (Int32.toNatClampNeg (l3 + 2)))]) (rest := []) (sy := [.long x72]) Z.1 dL_law_363 cw_L_39 (pX12_read_ok G (dk - 1) (by omega) q71) rfl rfl t69 (wG Z) rfl (by decide) (wF Z (by omega)) (wO Z (by omega) (by decide)) (zM _) M M rfl rfl ?_
      refine J_aload_n Z.1 2 dL_law_366 rfl rfl ?_
      refine J_aload_n Z.1 0 dL_law_367 rfl rfl ?_
      refine J_iload_n Z.1 3 dL_law_368 rfl rfl ?_
      refine J_iconst Z.1 (v := 1) (by decide) dL_law_369 ?_
      refine J_iadd Z.1 dL_law_370 ?_
      replace hf := ix_i hf
      obtain ⟨i73, hf⟩ := hf
      refine J_ialdK Z.1 dL_law_371 t1 (by rw [wE Z hE]; exact i73) ?_
      rw [wE Z hE]
      refine J_aload_n Z.1 0 dL_law_372 rfl rfl ?_
      refine J_iload_n Z.1 3 dL_law_373 rfl rfl ?_
      refine J_iconst Z.1 (v := 2) (by decide) dL_law_374 ?_
      refine J_iadd Z.1 dL_law_375 ?_
      replace hf := ix_i hf
      obtain ⟨i74, hf⟩ := hf
      refine J_ialdK Z.1 dL_law_376 t1 (by rw [wE Z hE]; exact i74) ?_
      rw [wE Z hE]
      replace hf := tg_i hf
      obtain ⟨t75, hf⟩ := hf
      replace hf := bd2_i hf
      obtain ⟨x78, h76, q77, hf⟩ := hf
      refine J_callV (ci := 11) (as := [.int (hI E.2.1 p0 (Int32.toNatClampNeg (l3 + 1))), .int (hI E.2.1 p0 (Int32.toNatClampNeg (l3 + 2)))]) (rest := [.long x72]) (sy := [.long x78, .long x72]) Z.1 dL_law_377 cw_L_43 (pX13_read_ok G (dk - 1) (by omega) q77) rfl rfl t75 (wG Z) rfl (by simp [cat_i, cat_l, cat_d, cat_rf]) (wF Z (by omega)) (wO Z (by omega) (by decide)) (zM _) M M rfl rfl ?_
      refine J_lcmp Z.1 dL_law_380 ?_
      refine J_if_eq Z.1 1469 dL_law_381 (by decide) (fun c79 => ?_) (fun c79 => ?_)
      · rw [if_pos c79] at hf
        exact pL_law_b1469_ok Z hK hE hk18 _ _ _ _ _ M hf
      · rw [if_neg c79] at hf
        refine J_iconst Z.1 (v := 0) (by decide) dL_law_384 ?_
        exact absurd (congrArg Prod.fst (Option.some.inj hf)) (show ¬ ((0 : Int32) = 1) from by decide)
    rw [if_neg c66] at hf
    by_cases c80 : x4 = 6
    · rw [if_pos c80] at hf
      refine J_tabIn (off := 353) Z.1 386 dL_law_33 (by rw [c80]; decide) (by rw [c80]; decide) (by rw [c80]; decide) (by decide) ?_
      refine J_aload_n Z.1 1 dL_law_386 rfl rfl ?_
      refine J_aload_n Z.1 0 dL_law_387 rfl rfl ?_
      refine J_iload_n Z.1 3 dL_law_388 rfl rfl ?_
      refine J_iconst Z.1 (v := 1) (by decide) dL_law_389 ?_
      refine J_iadd Z.1 dL_law_390 ?_
      replace hf := ix_i hf
      obtain ⟨i81, hf⟩ := hf
      refine J_ialdK Z.1 dL_law_391 t1 (by rw [wE Z hE]; exact i81) ?_
      rw [wE Z hE]
      refine J_aload_n Z.1 0 dL_law_392 rfl rfl ?_
      refine J_iload_n Z.1 3 dL_law_393 rfl rfl ?_
      refine J_iconst Z.1 (v := 2) (by decide) dL_law_394 ?_
      refine J_iadd Z.1 dL_law_395 ?_
      replace hf := ix_i hf
      obtain ⟨i82, hf⟩ := hf
      refine J_ialdK Z.1 dL_law_396 t1 (by rw [wE Z hE]; exact i82) ?_
      rw [wE Z hE]
      refine J_aload_n Z.1 0 dL_law_397 rfl rfl ?_
      refine J_iload_n Z.1 3 dL_law_398 rfl rfl ?_
      refine J_iconst Z.1 (v := 3) (by decide) dL_law_399 ?_
      refine J_iadd Z.1 dL_law_400 ?_
      replace hf := ix_i hf
      obtain ⟨i83, hf⟩ := hf
      refine J_ialdK Z.1 dL_law_401 t1 (by rw [wE Z hE]; exact i83) ?_
      rw [wE Z hE]
      refine J_aload_n Z.1 0 dL_law_402 rfl rfl ?_
      refine J_iload_n Z.1 3 dL_law_403 rfl rfl ?_
      refine J_iconst Z.1 (v := 4) (by decide) dL_law_404 ?_
      refine J_iadd Z.1 dL_law_405 ?_
      replace hf := ix_i hf
      obtain ⟨i84, hf⟩ := hf
      refine J_ialdK Z.1 dL_law_406 t1 (by rw [wE Z hE]; exact i84) ?_
      rw [wE Z hE]
      refine J_aload_n Z.1 0 dL_law_407 rfl rfl ?_
      refine J_iload_n Z.1 3 dL_law_408 rfl rfl ?_
      refine J_iconst Z.1 (v := 5) (by decide) dL_law_409 ?_
      refine J_iadd Z.1 dL_law_410 ?_
      replace hf := ix_i hf
      obtain ⟨i85, hf⟩ := hf
      refine J_ialdK Z.1 dL_law_411 t1 (by rw [wE Z hE]; exact i85) ?_
      rw [wE Z hE]
      replace hf := tg_i hf
      obtain ⟨t86, hf⟩ := hf
      replace hf := bd2_i hf
      obtain ⟨x89, h87, q88, hf⟩ := hf
      refine J_callV (ci := 10) (as := [.int (hI E.2.1 p0 (Int32.toNatClampNeg (l3 + 1))), .int (hI E.2.1 p0 (Int32.toNatClampNeg (l3 + 2))), .int (hI E.2.1 p0 (Int32.toNatClampNeg (l3 + 3))), .int (hI E.2.1 p0 (Int32.toNatClampNeg (l3 + 4))), .int (hI E.2.1 p0 (Int32.toNatClampNeg (l3 + 5)))]) (rest := []) (sy := [.int x89]) Z.1 dL_law_412 cw_L_44 (pX12_pour_ok G (dk - 1) (by omega) q88) rfl rfl t86 (wG Z) rfl (by decide) (wF Z (by omega)) (wO Z (by omega) (by decide)) (zM _) M M rfl rfl ?_
      refine J_aload_n Z.1 2 dL_law_415 rfl rfl ?_
      refine J_aload_n Z.1 0 dL_law_416 rfl rfl ?_
      refine J_iload_n Z.1 3 dL_law_417 rfl rfl ?_
      refine J_iconst Z.1 (v := 1) (by decide) dL_law_418 ?_
      refine J_iadd Z.1 dL_law_419 ?_
      replace hf := ix_i hf
      obtain ⟨i90, hf⟩ := hf
      refine J_ialdK Z.1 dL_law_420 t1 (by rw [wE Z hE]; exact i90) ?_
      rw [wE Z hE]
      refine J_aload_n Z.1 0 dL_law_421 rfl rfl ?_
      refine J_iload_n Z.1 3 dL_law_422 rfl rfl ?_
      refine J_iconst Z.1 (v := 2) (by decide) dL_law_423 ?_
      refine J_iadd Z.1 dL_law_424 ?_
      replace hf := ix_i hf
      obtain ⟨i91, hf⟩ := hf
      refine J_ialdK Z.1 dL_law_425 t1 (by rw [wE Z hE]; exact i91) ?_
      rw [wE Z hE]
      refine J_aload_n Z.1 0 dL_law_426 rfl rfl ?_
      refine J_iload_n Z.1 3 dL_law_427 rfl rfl ?_
      refine J_iconst Z.1 (v := 3) (by decide) dL_law_428 ?_
      refine J_iadd Z.1 dL_law_429 ?_
      replace hf := ix_i hf
      obtain ⟨i92, hf⟩ := hf
      refine J_ialdK Z.1 dL_law_430 t1 (by rw [wE Z hE]; exact i92) ?_
      rw [wE Z hE]
      refine J_aload_n Z.1 0 dL_law_431 rfl rfl ?_
      refine J_iload_n Z.1 3 dL_law_432 rfl rfl ?_
      refine J_iconst Z.1 (v := 4) (by decide) dL_law_433 ?_
      refine J_iadd Z.1 dL_law_434 ?_
      replace hf := ix_i hf
      obtain ⟨i93, hf⟩ := hf
      refine J_ialdK Z.1 dL_law_435 t1 (by rw [wE Z hE]; exact i93) ?_
      rw [wE Z hE]
      refine J_aload_n Z.1 0 dL_law_436 rfl rfl ?_
      refine J_iload_n Z.1 3 dL_law_437 rfl rfl ?_
      refine J_iconst Z.1 (v := 5) (by decide) dL_law_438 ?_
      refine J_iadd Z.1 dL_law_439 ?_
      replace hf := ix_i hf
      obtain ⟨i94, hf⟩ := hf
      refine J_ialdK Z.1 dL_law_440 t1 (by rw [wE Z hE]; exact i94) ?_
      rw [wE Z hE]
      replace hf := tg_i hf
      obtain ⟨t95, hf⟩ := hf
      replace hf := bd2_i hf
      obtain ⟨x98, h96, q97, hf⟩ := hf
      refine J_callV (ci := 11) (as := [.int (hI E.2.1 p0 (Int32.toNatClampNeg (l3 + 1))), .int (hI E.2.1 p0 (Int32.toNatClampNeg (l3 + 2))), .int (hI E.2.1 p0 (Int32.toNatClampNeg (l3 + 3))), .int (hI E.2.1 p0 (Int32.toNatClampNeg (l3 + 4))), .int (hI E.2.1 p0 (Int32.toNatClampNeg (l3 + 5)))]) (rest := [.int x89]) (sy := [.int x98, .int x89]) Z.1 dL_law_441 cw_L_48 (pX13_pour_ok G (dk - 1) (by omega) q97) rfl rfl t95 (wG Z) rfl (by simp [cat_i, cat_l, cat_d, cat_rf]) (wF Z (by omega)) (wO Z (by omega) (by decide)) (zM _) M M rfl rfl ?_
      refine J_icmp_eq Z.1 1469 dL_law_444 (by decide) (fun c99 => ?_) (fun c99 => ?_)
      · rw [if_pos c99] at hf
        exact pL_law_b1469_ok Z hK hE hk18 _ _ _ _ _ M hf
      · rw [if_neg c99] at hf
        refine J_iconst Z.1 (v := 0) (by decide) dL_law_447 ?_
        exact absurd (congrArg Prod.fst (Option.some.inj hf)) (show ¬ ((0 : Int32) = 1) from by decide)
    rw [if_neg c80] at hf
    by_cases c100 : x4 = 7
    · rw [if_pos c100] at hf
      refine J_tabIn (off := 416) Z.1 449 dL_law_33 (by rw [c100]; decide) (by rw [c100]; decide) (by rw [c100]; decide) (by decide) ?_
      refine J_aload_n Z.1 1 dL_law_449 rfl rfl ?_
      refine J_aload_n Z.1 0 dL_law_450 rfl rfl ?_
      refine J_iload_n Z.1 3 dL_law_451 rfl rfl ?_
      refine J_iconst Z.1 (v := 1) (by decide) dL_law_452 ?_
      refine J_iadd Z.1 dL_law_453 ?_
      replace hf := ix_i hf
      obtain ⟨i101, hf⟩ := hf
      refine J_ialdK Z.1 dL_law_454 t1 (by rw [wE Z hE]; exact i101) ?_
      rw [wE Z hE]
      refine J_aload_n Z.1 0 dL_law_455 rfl rfl ?_
      refine J_iload_n Z.1 3 dL_law_456 rfl rfl ?_
      refine J_iconst Z.1 (v := 2) (by decide) dL_law_457 ?_
      refine J_iadd Z.1 dL_law_458 ?_
      replace hf := ix_i hf
      obtain ⟨i102, hf⟩ := hf
      refine J_ialdK Z.1 dL_law_459 t1 (by rw [wE Z hE]; exact i102) ?_
      rw [wE Z hE]
      refine J_aload_n Z.1 0 dL_law_460 rfl rfl ?_
      refine J_iload_n Z.1 3 dL_law_461 rfl rfl ?_
      refine J_iconst Z.1 (v := 3) (by decide) dL_law_462 ?_
      refine J_iadd Z.1 dL_law_463 ?_
      replace hf := ix_i hf
      obtain ⟨i103, hf⟩ := hf
      refine J_ialdK Z.1 dL_law_464 t1 (by rw [wE Z hE]; exact i103) ?_
      rw [wE Z hE]
      refine J_aload_n Z.1 0 dL_law_465 rfl rfl ?_
      refine J_iload_n Z.1 3 dL_law_466 rfl rfl ?_
      refine J_iconst Z.1 (v := 4) (by decide) dL_law_467 ?_
      refine J_iadd Z.1 dL_law_468 ?_
      replace hf := ix_i hf
      obtain ⟨i104, hf⟩ := hf
      refine J_ialdK Z.1 dL_law_469 t1 (by rw [wE Z hE]; exact i104) ?_
      rw [wE Z hE]
      refine J_aload_n Z.1 0 dL_law_470 rfl rfl ?_
      refine J_iload_n Z.1 3 dL_law_471 rfl rfl ?_
      refine J_iconst Z.1 (v := 5) (by decide) dL_law_472 ?_
      refine J_iadd Z.1 dL_law_473 ?_
      replace hf := ix_i hf
      obtain ⟨i105, hf⟩ := hf
      refine J_ialdK Z.1 dL_law_474 t1 (by rw [wE Z hE]; exact i105) ?_
      rw [wE Z hE]
      replace hf := tg_i hf
      obtain ⟨t106, hf⟩ := hf
      replace hf := bd2_i hf
      obtain ⟨x109, h107, q108, hf⟩ := hf
      refine J_callV (ci := 10) (as := [.int (hI E.2.1 p0 (Int32.toNatClampNeg (l3 + 1))), .int (hI E.2.1 p0 (Int32.toNatClampNeg (l3 + 2))), .int (hI E.2.1 p0 (Int32.toNatClampNeg (l3 + 3))), .int (hI E.2.1 p0 (Int32.toNatClampNeg (l3 + 4))), .int (hI E.2.1 p0 (Int32.toNatClampNeg (l3 + 5)))]) (rest := []) (sy := [.int x109]) Z.1 dL_law_475 cw_L_49 (pX12_feed_ok G (dk - 1) (by omega) q108) rfl rfl t106 (wG Z) rfl (by decide) (wF Z (by omega)) (wO Z (by omega) (by decide)) (zM _) M M rfl rfl ?_
      refine J_aload_n Z.1 2 dL_law_478 rfl rfl ?_
      refine J_aload_n Z.1 0 dL_law_479 rfl rfl ?_
      refine J_iload_n Z.1 3 dL_law_480 rfl rfl ?_
      refine J_iconst Z.1 (v := 1) (by decide) dL_law_481 ?_
      refine J_iadd Z.1 dL_law_482 ?_
      replace hf := ix_i hf
      obtain ⟨i110, hf⟩ := hf
      refine J_ialdK Z.1 dL_law_483 t1 (by rw [wE Z hE]; exact i110) ?_
      rw [wE Z hE]
      refine J_aload_n Z.1 0 dL_law_484 rfl rfl ?_
      refine J_iload_n Z.1 3 dL_law_485 rfl rfl ?_
      refine J_iconst Z.1 (v := 2) (by decide) dL_law_486 ?_
      refine J_iadd Z.1 dL_law_487 ?_
      replace hf := ix_i hf
      obtain ⟨i111, hf⟩ := hf
      refine J_ialdK Z.1 dL_law_488 t1 (by rw [wE Z hE]; exact i111) ?_
      rw [wE Z hE]
      refine J_aload_n Z.1 0 dL_law_489 rfl rfl ?_
      refine J_iload_n Z.1 3 dL_law_490 rfl rfl ?_
      refine J_iconst Z.1 (v := 3) (by decide) dL_law_491 ?_
      refine J_iadd Z.1 dL_law_492 ?_
      replace hf := ix_i hf
      obtain ⟨i112, hf⟩ := hf
      refine J_ialdK Z.1 dL_law_493 t1 (by rw [wE Z hE]; exact i112) ?_
      rw [wE Z hE]
      refine J_aload_n Z.1 0 dL_law_494 rfl rfl ?_
      refine J_iload_n Z.1 3 dL_law_495 rfl rfl ?_
      refine J_iconst Z.1 (v := 4) (by decide) dL_law_496 ?_
      refine J_iadd Z.1 dL_law_497 ?_
      replace hf := ix_i hf
      obtain ⟨i113, hf⟩ := hf
      refine J_ialdK Z.1 dL_law_498 t1 (by rw [wE Z hE]; exact i113) ?_
      rw [wE Z hE]
      refine J_aload_n Z.1 0 dL_law_499 rfl rfl ?_
      refine J_iload_n Z.1 3 dL_law_500 rfl rfl ?_
      refine J_iconst Z.1 (v := 5) (by decide) dL_law_501 ?_
      refine J_iadd Z.1 dL_law_502 ?_
      replace hf := ix_i hf
      obtain ⟨i114, hf⟩ := hf
      refine J_ialdK Z.1 dL_law_503 t1 (by rw [wE Z hE]; exact i114) ?_
      rw [wE Z hE]
      replace hf := tg_i hf
      obtain ⟨t115, hf⟩ := hf
      replace hf := bd2_i hf
      obtain ⟨x118, h116, q117, hf⟩ := hf
      refine J_callV (ci := 11) (as := [.int (hI E.2.1 p0 (Int32.toNatClampNeg (l3 + 1))), .int (hI E.2.1 p0 (Int32.toNatClampNeg (l3 + 2))), .int (hI E.2.1 p0 (Int32.toNatClampNeg (l3 + 3))), .int (hI E.2.1 p0 (Int32.toNatClampNeg (l3 + 4))), .int (hI E.2.1 p0 (Int32.toNatClampNeg (l3 + 5)))]) (rest := [.int x109]) (sy := [.int x118, .int x109]) Z.1 dL_law_504 cw_L_53 (pX13_feed_ok G (dk - 1) (by omega) q117) rfl rfl t115 (wG Z) rfl (by simp [cat_i, cat_l, cat_d, cat_rf]) (wF Z (by omega)) (wO Z (by omega) (by decide)) (zM _) M M rfl rfl ?_
      refine J_icmp_eq Z.1 1469 dL_law_507 (by decide) (fun c119 => ?_) (fun c119 => ?_)
      · rw [if_pos c119] at hf
        exact pL_law_b1469_ok Z hK hE hk18 _ _ _ _ _ M hf
      · rw [if_neg c119] at hf
        refine J_iconst Z.1 (v := 0) (by decide) dL_law_510 ?_
        exact absurd (congrArg Prod.fst (Option.some.inj hf)) (show ¬ ((0 : Int32) = 1) from by decide)
    rw [if_neg c100] at hf
    by_cases c120 : x4 = 8
    · rw [if_pos c120] at hf
      refine J_tabIn (off := 479) Z.1 512 dL_law_33 (by rw [c120]; decide) (by rw [c120]; decide) (by rw [c120]; decide) (by decide) ?_
      refine J_aload_n Z.1 1 dL_law_512 rfl rfl ?_
      refine J_aload_n Z.1 0 dL_law_513 rfl rfl ?_
      refine J_iload_n Z.1 3 dL_law_514 rfl rfl ?_
      refine J_iconst Z.1 (v := 1) (by decide) dL_law_515 ?_
      refine J_iadd Z.1 dL_law_516 ?_
      replace hf := ix_i hf
      obtain ⟨i121, hf⟩ := hf
      refine J_ialdK Z.1 dL_law_517 t1 (by rw [wE Z hE]; exact i121) ?_
      rw [wE Z hE]
      replace hf := tg_i hf
      obtain ⟨t122, hf⟩ := hf
      replace hf := bd3_i hf
      obtain ⟨x127, g123, h124, q125, hf⟩ := hf
      replace hf := gq_i hf
      obtain ⟨n126, hf⟩ := hf
      have M128o := pX12_program_mono q125
      have M128 := wmC Z M M128o n126
      refine J_callV (ci := 10) (as := [.int (hI E.2.1 p0 (Int32.toNatClampNeg (l3 + 1)))]) (rest := []) (sy := [.int x127]) Z.1 dL_law_518 cw_L_54 (pX12_program_ok G (dk - 1) (by omega) hE q125) rfl rfl t122 (wG Z) rfl (by decide) (wF Z (by omega)) (wO Z (by omega) (by decide)) M128o M M128 rfl rfl ?_
      refine J_aload_n Z.1 2 dL_law_521 rfl rfl ?_
      refine J_aload_n Z.1 0 dL_law_522 rfl rfl ?_
      refine J_iload_n Z.1 3 dL_law_523 rfl rfl ?_
      refine J_iconst Z.1 (v := 1) (by decide) dL_law_524 ?_
      refine J_iadd Z.1 dL_law_525 ?_
      replace hf := tg_i hf
      obtain ⟨t129, hf⟩ := hf
      rw [← wE Z hE] at t129
      replace hf := ix_i hf
      obtain ⟨i130, hf⟩ := hf
      refine J_ialdK Z.1 dL_law_526 t129 (by rw [wE Z hE]; exact i130) ?_
      rw [wE Z hE]
      replace hf := tg_i hf
      obtain ⟨t131, hf⟩ := hf
      replace hf := bd2_i hf
      obtain ⟨x134, h132, q133, hf⟩ := hf
      refine J_callV (ci := 11) (as := [.int (hI E.2.1 p0 (Int32.toNatClampNeg (l3 + 1)))]) (rest := [.int x127]) (sy := [.int x134, .int x127]) Z.1 dL_law_527 cw_L_58 (pX13_program_ok G (dk - 1) (by omega) q133) rfl rfl t131 (wG Z) rfl (by simp [cat_i, cat_l, cat_d, cat_rf]) (wF Z (by omega)) (wO Z (by omega) (by decide)) (zM _) M128 M128 rfl rfl ?_
      refine J_icmp_eq Z.1 1469 dL_law_530 (by decide) (fun c135 => ?_) (fun c135 => ?_)
      · rw [if_pos c135] at hf
        exact pL_law_b1469_ok Z hK hE hk18 _ _ _ _ _ M128 hf
      · rw [if_neg c135] at hf
        refine J_iconst Z.1 (v := 0) (by decide) dL_law_533 ?_
        exact absurd (congrArg Prod.fst (Option.some.inj hf)) (show ¬ ((0 : Int32) = 1) from by decide)
    rw [if_neg c120] at hf
    by_cases c136 : x4 = 9
    · rw [if_pos c136] at hf
      refine J_tabIn (off := 502) Z.1 535 dL_law_33 (by rw [c136]; decide) (by rw [c136]; decide) (by rw [c136]; decide) (by decide) ?_
      refine J_aload_n Z.1 1 dL_law_535 rfl rfl ?_
      refine J_aload_n Z.1 0 dL_law_536 rfl rfl ?_
      refine J_iload_n Z.1 3 dL_law_537 rfl rfl ?_
      refine J_iconst Z.1 (v := 1) (by decide) dL_law_538 ?_
      refine J_iadd Z.1 dL_law_539 ?_
      replace hf := ix_i hf
      obtain ⟨i137, hf⟩ := hf
      refine J_ialdK Z.1 dL_law_540 t1 (by rw [wE Z hE]; exact i137) ?_
      rw [wE Z hE]
      replace hf := tg_i hf
      obtain ⟨t138, hf⟩ := hf
      replace hf := bd_i hf
      obtain ⟨x139, q140, hf⟩ := hf
      refine J_callV (ci := 10) (as := [.int (hI E.2.1 p0 (Int32.toNatClampNeg (l3 + 1)))]) (rest := []) (sy := [.int x139]) Z.1 dL_law_541 cw_L_59 (pX12_fault_ok G (dk - 1) (by omega) q140) rfl rfl t138 (wG Z) rfl (by decide) (wF Z (by omega)) (wO Z (by omega) (by decide)) (zM _) M M rfl rfl ?_
      refine J_aload_n Z.1 2 dL_law_544 rfl rfl ?_
      refine J_aload_n Z.1 0 dL_law_545 rfl rfl ?_
      refine J_iload_n Z.1 3 dL_law_546 rfl rfl ?_
      refine J_iconst Z.1 (v := 1) (by decide) dL_law_547 ?_
      refine J_iadd Z.1 dL_law_548 ?_
      replace hf := ix_i hf
      obtain ⟨i141, hf⟩ := hf
      refine J_ialdK Z.1 dL_law_549 t1 (by rw [wE Z hE]; exact i141) ?_
      rw [wE Z hE]
      replace hf := tg_i hf
      obtain ⟨t142, hf⟩ := hf
      replace hf := bd2_i hf
      obtain ⟨x145, h143, q144, hf⟩ := hf
      refine J_callV (ci := 11) (as := [.int (hI E.2.1 p0 (Int32.toNatClampNeg (l3 + 1)))]) (rest := [.int x139]) (sy := [.int x145, .int x139]) Z.1 dL_law_550 cw_L_62 (pX13_fault_ok G (dk - 1) (by omega) q144) rfl rfl t142 (wG Z) rfl (by simp [cat_i, cat_l, cat_d, cat_rf]) (wF Z (by omega)) (wO Z (by omega) (by decide)) (zM _) M M rfl rfl ?_
      refine J_icmp_eq Z.1 1469 dL_law_553 (by decide) (fun c146 => ?_) (fun c146 => ?_)
      · rw [if_pos c146] at hf
        exact pL_law_b1469_ok Z hK hE hk18 _ _ _ _ _ M hf
      · rw [if_neg c146] at hf
        refine J_iconst Z.1 (v := 0) (by decide) dL_law_556 ?_
        exact absurd (congrArg Prod.fst (Option.some.inj hf)) (show ¬ ((0 : Int32) = 1) from by decide)
    rw [if_neg c136] at hf
    by_cases c147 : x4 = 10
    · rw [if_pos c147] at hf
      refine J_tabIn (off := 525) Z.1 558 dL_law_33 (by rw [c147]; decide) (by rw [c147]; decide) (by rw [c147]; decide) (by decide) ?_
      refine J_aload_n Z.1 1 dL_law_558 rfl rfl ?_
      refine J_aload_n Z.1 0 dL_law_559 rfl rfl ?_
      refine J_iload_n Z.1 3 dL_law_560 rfl rfl ?_
      refine J_iconst Z.1 (v := 1) (by decide) dL_law_561 ?_
      refine J_iadd Z.1 dL_law_562 ?_
      replace hf := ix_i hf
      obtain ⟨i148, hf⟩ := hf
      refine J_ialdK Z.1 dL_law_563 t1 (by rw [wE Z hE]; exact i148) ?_
      rw [wE Z hE]
      replace hf := tg_i hf
      obtain ⟨t149, hf⟩ := hf
      replace hf := bd2_i hf
      obtain ⟨x152, h150, q151, hf⟩ := hf
      refine J_callV (ci := 10) (as := [.int (hI E.2.1 p0 (Int32.toNatClampNeg (l3 + 1)))]) (rest := []) (sy := [.int x152]) Z.1 dL_law_564 cw_L_63 (pX12_many_ok G (dk - 1) (by omega) q151) rfl rfl t149 (wG Z) rfl (by decide) (wF Z (by omega)) (wO Z (by omega) (by decide)) (zM _) M M rfl rfl ?_
      refine J_aload_n Z.1 2 dL_law_567 rfl rfl ?_
      refine J_aload_n Z.1 0 dL_law_568 rfl rfl ?_
      refine J_iload_n Z.1 3 dL_law_569 rfl rfl ?_
      refine J_iconst Z.1 (v := 1) (by decide) dL_law_570 ?_
      refine J_iadd Z.1 dL_law_571 ?_
      replace hf := ix_i hf
      obtain ⟨i153, hf⟩ := hf
      refine J_ialdK Z.1 dL_law_572 t1 (by rw [wE Z hE]; exact i153) ?_
      rw [wE Z hE]
      replace hf := tg_i hf
      obtain ⟨t154, hf⟩ := hf
      replace hf := bd2_i hf
      obtain ⟨x157, h155, q156, hf⟩ := hf
      refine J_callV (ci := 11) (as := [.int (hI E.2.1 p0 (Int32.toNatClampNeg (l3 + 1)))]) (rest := [.int x152]) (sy := [.int x157, .int x152]) Z.1 dL_law_573 cw_L_66 (pX13_many_ok G (dk - 1) (by omega) q156) rfl rfl t154 (wG Z) rfl (by simp [cat_i, cat_l, cat_d, cat_rf]) (wF Z (by omega)) (wO Z (by omega) (by decide)) (zM _) M M rfl rfl ?_
      refine J_icmp_eq Z.1 1469 dL_law_576 (by decide) (fun c158 => ?_) (fun c158 => ?_)
      · rw [if_pos c158] at hf
        exact pL_law_b1469_ok Z hK hE hk18 _ _ _ _ _ M hf
      · rw [if_neg c158] at hf
        refine J_iconst Z.1 (v := 0) (by decide) dL_law_579 ?_
        exact absurd (congrArg Prod.fst (Option.some.inj hf)) (show ¬ ((0 : Int32) = 1) from by decide)
    rw [if_neg c147] at hf
    by_cases c159 : x4 = 11
    · rw [if_pos c159] at hf
      refine J_tabIn (off := 548) Z.1 581 dL_law_33 (by rw [c159]; decide) (by rw [c159]; decide) (by rw [c159]; decide) (by decide) ?_
      refine J_aload_n Z.1 1 dL_law_581 rfl rfl ?_
      refine J_aload_n Z.1 0 dL_law_582 rfl rfl ?_
      refine J_iload_n Z.1 3 dL_law_583 rfl rfl ?_
      refine J_iconst Z.1 (v := 1) (by decide) dL_law_584 ?_
      refine J_iadd Z.1 dL_law_585 ?_
      replace hf := ix_i hf
      obtain ⟨i160, hf⟩ := hf
      refine J_ialdK Z.1 dL_law_586 t1 (by rw [wE Z hE]; exact i160) ?_
      rw [wE Z hE]
      refine J_aload_n Z.1 0 dL_law_587 rfl rfl ?_
      refine J_iload_n Z.1 3 dL_law_588 rfl rfl ?_
      refine J_iconst Z.1 (v := 2) (by decide) dL_law_589 ?_
      refine J_iadd Z.1 dL_law_590 ?_
      replace hf := ix_i hf
      obtain ⟨i161, hf⟩ := hf
      refine J_ialdK Z.1 dL_law_591 t1 (by rw [wE Z hE]; exact i161) ?_
      rw [wE Z hE]
      replace hf := tg_i hf
      obtain ⟨t162, hf⟩ := hf
      replace hf := bd2_i hf
      obtain ⟨x165, h163, q164, hf⟩ := hf
      refine J_callV (ci := 10) (as := [.int (hI E.2.1 p0 (Int32.toNatClampNeg (l3 + 1))), .int (hI E.2.1 p0 (Int32.toNatClampNeg (l3 + 2)))]) (rest := []) (sy := [.int x165]) Z.1 dL_law_592 cw_L_67 (pX12_element_ok G (dk - 1) (by omega) q164) rfl rfl t162 (wG Z) rfl (by decide) (wF Z (by omega)) (wO Z (by omega) (by decide)) (zM _) M M rfl rfl ?_
      refine J_aload_n Z.1 2 dL_law_595 rfl rfl ?_
      refine J_aload_n Z.1 0 dL_law_596 rfl rfl ?_
      refine J_iload_n Z.1 3 dL_law_597 rfl rfl ?_
      refine J_iconst Z.1 (v := 1) (by decide) dL_law_598 ?_
      refine J_iadd Z.1 dL_law_599 ?_
      replace hf := ix_i hf
      obtain ⟨i166, hf⟩ := hf
      refine J_ialdK Z.1 dL_law_600 t1 (by rw [wE Z hE]; exact i166) ?_
      rw [wE Z hE]
      refine J_aload_n Z.1 0 dL_law_601 rfl rfl ?_
      refine J_iload_n Z.1 3 dL_law_602 rfl rfl ?_
      refine J_iconst Z.1 (v := 2) (by decide) dL_law_603 ?_
      refine J_iadd Z.1 dL_law_604 ?_
      replace hf := ix_i hf
      obtain ⟨i167, hf⟩ := hf
      refine J_ialdK Z.1 dL_law_605 t1 (by rw [wE Z hE]; exact i167) ?_
      rw [wE Z hE]
      replace hf := tg_i hf
      obtain ⟨t168, hf⟩ := hf
      replace hf := bd2_i hf
      obtain ⟨x171, h169, q170, hf⟩ := hf
      refine J_callV (ci := 11) (as := [.int (hI E.2.1 p0 (Int32.toNatClampNeg (l3 + 1))), .int (hI E.2.1 p0 (Int32.toNatClampNeg (l3 + 2)))]) (rest := [.int x165]) (sy := [.int x171, .int x165]) Z.1 dL_law_606 cw_L_71 (pX13_element_ok G (dk - 1) (by omega) q170) rfl rfl t168 (wG Z) rfl (by simp [cat_i, cat_l, cat_d, cat_rf]) (wF Z (by omega)) (wO Z (by omega) (by decide)) (zM _) M M rfl rfl ?_
      refine J_icmp_eq Z.1 1469 dL_law_609 (by decide) (fun c172 => ?_) (fun c172 => ?_)
      · rw [if_pos c172] at hf
        exact pL_law_b1469_ok Z hK hE hk18 _ _ _ _ _ M hf
      · rw [if_neg c172] at hf
        refine J_iconst Z.1 (v := 0) (by decide) dL_law_612 ?_
        exact absurd (congrArg Prod.fst (Option.some.inj hf)) (show ¬ ((0 : Int32) = 1) from by decide)
    rw [if_neg c159] at hf
    by_cases c173 : x4 = 12
    · rw [if_pos c173] at hf
      refine J_tabIn (off := 581) Z.1 614 dL_law_33 (by rw [c173]; decide) (by rw [c173]; decide) (by rw [c173]; decide) (by decide) ?_
      refine J_aload_n Z.1 1 dL_law_614 rfl rfl ?_
      refine J_aload_n Z.1 0 dL_law_615 rfl rfl ?_
      refine J_iload_n Z.1 3 dL_law_616 rfl rfl ?_
      refine J_iconst Z.1 (v := 1) (by decide) dL_law_617 ?_
      refine J_iadd Z.1 dL_law_618 ?_
      replace hf := ix_i hf
      obtain ⟨i174, hf⟩ := hf
      refine J_ialdK Z.1 dL_law_619 t1 (by rw [wE Z hE]; exact i174) ?_
      rw [wE Z hE]
      replace hf := tg_i hf
      obtain ⟨t175, hf⟩ := hf
      replace hf := bd2_i hf
      obtain ⟨x178, h176, q177, hf⟩ := hf
      refine J_callV (ci := 10) (as := [.int (hI E.2.1 p0 (Int32.toNatClampNeg (l3 + 1)))]) (rest := []) (sy := [.int x178]) Z.1 dL_law_620 cw_L_72 (pX12_scalar_ok G (dk - 1) (by omega) q177) rfl rfl t175 (wG Z) rfl (by decide) (wF Z (by omega)) (wO Z (by omega) (by decide)) (zM _) M M rfl rfl ?_
      refine J_aload_n Z.1 2 dL_law_623 rfl rfl ?_
      refine J_aload_n Z.1 0 dL_law_624 rfl rfl ?_
      refine J_iload_n Z.1 3 dL_law_625 rfl rfl ?_
      refine J_iconst Z.1 (v := 1) (by decide) dL_law_626 ?_
      refine J_iadd Z.1 dL_law_627 ?_
      replace hf := ix_i hf
      obtain ⟨i179, hf⟩ := hf
      refine J_ialdK Z.1 dL_law_628 t1 (by rw [wE Z hE]; exact i179) ?_
      rw [wE Z hE]
      replace hf := tg_i hf
      obtain ⟨t180, hf⟩ := hf
      replace hf := bd2_i hf
      obtain ⟨x183, h181, q182, hf⟩ := hf
      refine J_callV (ci := 11) (as := [.int (hI E.2.1 p0 (Int32.toNatClampNeg (l3 + 1)))]) (rest := [.int x178]) (sy := [.int x183, .int x178]) Z.1 dL_law_629 cw_L_75 (pX13_scalar_ok G (dk - 1) (by omega) q182) rfl rfl t180 (wG Z) rfl (by simp [cat_i, cat_l, cat_d, cat_rf]) (wF Z (by omega)) (wO Z (by omega) (by decide)) (zM _) M M rfl rfl ?_
      refine J_icmp_eq Z.1 1469 dL_law_632 (by decide) (fun c184 => ?_) (fun c184 => ?_)
      · rw [if_pos c184] at hf
        exact pL_law_b1469_ok Z hK hE hk18 _ _ _ _ _ M hf
      · rw [if_neg c184] at hf
        refine J_iconst Z.1 (v := 0) (by decide) dL_law_635 ?_
        exact absurd (congrArg Prod.fst (Option.some.inj hf)) (show ¬ ((0 : Int32) = 1) from by decide)
    rw [if_neg c173] at hf
    by_cases c185 : x4 = 13
    · rw [if_pos c185] at hf
      refine J_tabIn (off := 604) Z.1 637 dL_law_33 (by rw [c185]; decide) (by rw [c185]; decide) (by rw [c185]; decide) (by decide) ?_
      refine J_aload_n Z.1 1 dL_law_637 rfl rfl ?_
      refine J_aload_n Z.1 0 dL_law_638 rfl rfl ?_
      refine J_iload_n Z.1 3 dL_law_639 rfl rfl ?_
      refine J_iconst Z.1 (v := 1) (by decide) dL_law_640 ?_
      refine J_iadd Z.1 dL_law_641 ?_
      replace hf := ix_i hf
      obtain ⟨i186, hf⟩ := hf
      refine J_ialdK Z.1 dL_law_642 t1 (by rw [wE Z hE]; exact i186) ?_
      rw [wE Z hE]
      replace hf := tg_i hf
      obtain ⟨t187, hf⟩ := hf
      replace hf := bd2_i hf
      obtain ⟨x190, h188, q189, hf⟩ := hf
      refine J_callV (ci := 10) (as := [.int (hI E.2.1 p0 (Int32.toNatClampNeg (l3 + 1)))]) (rest := []) (sy := [.int x190]) Z.1 dL_law_643 cw_L_76 (pX12_word_ok G (dk - 1) (by omega) q189) rfl rfl t187 (wG Z) rfl (by decide) (wF Z (by omega)) (wO Z (by omega) (by decide)) (zM _) M M rfl rfl ?_
      refine J_aload_n Z.1 2 dL_law_646 rfl rfl ?_
      refine J_aload_n Z.1 0 dL_law_647 rfl rfl ?_
      refine J_iload_n Z.1 3 dL_law_648 rfl rfl ?_
      refine J_iconst Z.1 (v := 1) (by decide) dL_law_649 ?_
      refine J_iadd Z.1 dL_law_650 ?_
      replace hf := ix_i hf
      obtain ⟨i191, hf⟩ := hf
      refine J_ialdK Z.1 dL_law_651 t1 (by rw [wE Z hE]; exact i191) ?_
      rw [wE Z hE]
      replace hf := tg_i hf
      obtain ⟨t192, hf⟩ := hf
      replace hf := bd2_i hf
      obtain ⟨x195, h193, q194, hf⟩ := hf
      refine J_callV (ci := 11) (as := [.int (hI E.2.1 p0 (Int32.toNatClampNeg (l3 + 1)))]) (rest := [.int x190]) (sy := [.int x195, .int x190]) Z.1 dL_law_652 cw_L_79 (pX13_word_ok G (dk - 1) (by omega) q194) rfl rfl t192 (wG Z) rfl (by simp [cat_i, cat_l, cat_d, cat_rf]) (wF Z (by omega)) (wO Z (by omega) (by decide)) (zM _) M M rfl rfl ?_
      refine J_icmp_eq Z.1 1469 dL_law_655 (by decide) (fun c196 => ?_) (fun c196 => ?_)
      · rw [if_pos c196] at hf
        exact pL_law_b1469_ok Z hK hE hk18 _ _ _ _ _ M hf
      · rw [if_neg c196] at hf
        refine J_iconst Z.1 (v := 0) (by decide) dL_law_658 ?_
        exact absurd (congrArg Prod.fst (Option.some.inj hf)) (show ¬ ((0 : Int32) = 1) from by decide)
    rw [if_neg c185] at hf
    by_cases c197 : x4 = 14
    · rw [if_pos c197] at hf
      refine J_tabIn (off := 627) Z.1 660 dL_law_33 (by rw [c197]; decide) (by rw [c197]; decide) (by rw [c197]; decide) (by decide) ?_
      refine J_aload_n Z.1 1 dL_law_660 rfl rfl ?_
      refine J_aload_n Z.1 0 dL_law_661 rfl rfl ?_
      refine J_iload_n Z.1 3 dL_law_662 rfl rfl ?_
      refine J_iconst Z.1 (v := 1) (by decide) dL_law_663 ?_
      refine J_iadd Z.1 dL_law_664 ?_
      replace hf := ix_i hf
      obtain ⟨i198, hf⟩ := hf
      refine J_ialdK Z.1 dL_law_665 t1 (by rw [wE Z hE]; exact i198) ?_
      rw [wE Z hE]
      refine J_aload_n Z.1 0 dL_law_666 rfl rfl ?_
      refine J_iload_n Z.1 3 dL_law_667 rfl rfl ?_
      refine J_iconst Z.1 (v := 2) (by decide) dL_law_668 ?_
      refine J_iadd Z.1 dL_law_669 ?_
      replace hf := ix_i hf
      obtain ⟨i199, hf⟩ := hf
      refine J_ialdK Z.1 dL_law_670 t1 (by rw [wE Z hE]; exact i199) ?_
      rw [wE Z hE]
      refine J_aload_n Z.1 0 dL_law_671 rfl rfl ?_
      refine J_iload_n Z.1 3 dL_law_672 rfl rfl ?_
      refine J_iconst Z.1 (v := 3) (by decide) dL_law_673 ?_
      refine J_iadd Z.1 dL_law_674 ?_
      replace hf := ix_i hf
      obtain ⟨i200, hf⟩ := hf
      refine J_ialdK Z.1 dL_law_675 t1 (by rw [wE Z hE]; exact i200) ?_
      rw [wE Z hE]
      refine J_i2l Z.1 dL_law_676 ?_
      refine J_bipush Z.1 (v := 32) (by decide) dL_law_677 ?_
      refine J_lshl Z.1 dL_law_679 ?_
      refine J_aload_n Z.1 0 dL_law_680 rfl rfl ?_
      refine J_iload_n Z.1 3 dL_law_681 rfl rfl ?_
      refine J_iconst Z.1 (v := 4) (by decide) dL_law_682 ?_
      refine J_iadd Z.1 dL_law_683 ?_
      replace hf := ix_i hf
      obtain ⟨i201, hf⟩ := hf
      refine J_ialdK Z.1 dL_law_684 t1 (by rw [wE Z hE]; exact i201) ?_
      rw [wE Z hE]
      refine J_i2l Z.1 dL_law_685 ?_
      refine J_ldc2 Z.1 q_2175 dL_law_686 ?_
      refine J_land Z.1 dL_law_689 ?_
      refine J_lor Z.1 dL_law_690 ?_
      refine J_aload_n Z.1 0 dL_law_691 rfl rfl ?_
      refine J_iload_n Z.1 3 dL_law_692 rfl rfl ?_
      refine J_iconst Z.1 (v := 5) (by decide) dL_law_693 ?_
      refine J_iadd Z.1 dL_law_694 ?_
      replace hf := ix_i hf
      obtain ⟨i202, hf⟩ := hf
      refine J_ialdK Z.1 dL_law_695 t1 (by rw [wE Z hE]; exact i202) ?_
      rw [wE Z hE]
      replace hf := tg_i hf
      obtain ⟨t203, hf⟩ := hf
      replace hf := bd2_i hf
      obtain ⟨x206, h204, q205, hf⟩ := hf
      refine J_callV (ci := 10) (as := [.int (hI E.2.1 p0 (Int32.toNatClampNeg (l3 + 1))), .int (hI E.2.1 p0 (Int32.toNatClampNeg (l3 + 2))), .long (((Int32.toInt64 (hI E.2.1 p0 (Int32.toNatClampNeg (l3 + 3)))) <<< (Int32.toInt64 32 &&& 63)) ||| ((Int32.toInt64 (hI E.2.1 p0 (Int32.toNatClampNeg (l3 + 4)))) &&& 4294967295)), .int (hI E.2.1 p0 (Int32.toNatClampNeg (l3 + 5)))]) (rest := []) (sy := [.int x206]) Z.1 dL_law_696 cw_L_80 (pX12_put_ok G (dk - 1) (by omega) q205) rfl rfl t203 (wG Z) rfl (by decide) (wF Z (by omega)) (wO Z (by omega) (by decide)) (zM _) M M rfl rfl ?_
      refine J_aload_n Z.1 2 dL_law_699 rfl rfl ?_
      refine J_aload_n Z.1 0 dL_law_700 rfl rfl ?_
      refine J_iload_n Z.1 3 dL_law_701 rfl rfl ?_
      refine J_iconst Z.1 (v := 1) (by decide) dL_law_702 ?_
      refine J_iadd Z.1 dL_law_703 ?_
      replace hf := ix_i hf
      obtain ⟨i207, hf⟩ := hf
      refine J_ialdK Z.1 dL_law_704 t1 (by rw [wE Z hE]; exact i207) ?_
      rw [wE Z hE]
      refine J_aload_n Z.1 0 dL_law_705 rfl rfl ?_
      refine J_iload_n Z.1 3 dL_law_706 rfl rfl ?_
      refine J_iconst Z.1 (v := 2) (by decide) dL_law_707 ?_
      refine J_iadd Z.1 dL_law_708 ?_
      replace hf := ix_i hf
      obtain ⟨i208, hf⟩ := hf
      refine J_ialdK Z.1 dL_law_709 t1 (by rw [wE Z hE]; exact i208) ?_
      rw [wE Z hE]
      refine J_aload_n Z.1 0 dL_law_710 rfl rfl ?_
      refine J_iload_n Z.1 3 dL_law_711 rfl rfl ?_
      refine J_iconst Z.1 (v := 3) (by decide) dL_law_712 ?_
      refine J_iadd Z.1 dL_law_713 ?_
      replace hf := ix_i hf
      obtain ⟨i209, hf⟩ := hf
      refine J_ialdK Z.1 dL_law_714 t1 (by rw [wE Z hE]; exact i209) ?_
      rw [wE Z hE]
      refine J_i2l Z.1 dL_law_715 ?_
      refine J_bipush Z.1 (v := 32) (by decide) dL_law_716 ?_
      refine J_lshl Z.1 dL_law_718 ?_
      refine J_aload_n Z.1 0 dL_law_719 rfl rfl ?_
      refine J_iload_n Z.1 3 dL_law_720 rfl rfl ?_
      refine J_iconst Z.1 (v := 4) (by decide) dL_law_721 ?_
      refine J_iadd Z.1 dL_law_722 ?_
      replace hf := ix_i hf
      obtain ⟨i210, hf⟩ := hf
      refine J_ialdK Z.1 dL_law_723 t1 (by rw [wE Z hE]; exact i210) ?_
      rw [wE Z hE]
      refine J_i2l Z.1 dL_law_724 ?_
      refine J_ldc2 Z.1 q_2175 dL_law_725 ?_
      refine J_land Z.1 dL_law_728 ?_
      refine J_lor Z.1 dL_law_729 ?_
      refine J_aload_n Z.1 0 dL_law_730 rfl rfl ?_
      refine J_iload_n Z.1 3 dL_law_731 rfl rfl ?_
      refine J_iconst Z.1 (v := 5) (by decide) dL_law_732 ?_
      refine J_iadd Z.1 dL_law_733 ?_
      replace hf := ix_i hf
      obtain ⟨i211, hf⟩ := hf
      refine J_ialdK Z.1 dL_law_734 t1 (by rw [wE Z hE]; exact i211) ?_
      rw [wE Z hE]
      replace hf := tg_i hf
      obtain ⟨t212, hf⟩ := hf
      replace hf := bd2_i hf
      obtain ⟨x215, h213, q214, hf⟩ := hf
      refine J_callV (ci := 11) (as := [.int (hI E.2.1 p0 (Int32.toNatClampNeg (l3 + 1))), .int (hI E.2.1 p0 (Int32.toNatClampNeg (l3 + 2))), .long (((Int32.toInt64 (hI E.2.1 p0 (Int32.toNatClampNeg (l3 + 3)))) <<< (Int32.toInt64 32 &&& 63)) ||| ((Int32.toInt64 (hI E.2.1 p0 (Int32.toNatClampNeg (l3 + 4)))) &&& 4294967295)), .int (hI E.2.1 p0 (Int32.toNatClampNeg (l3 + 5)))]) (rest := [.int x206]) (sy := [.int x215, .int x206]) Z.1 dL_law_735 cw_L_84 (pX13_put_ok G (dk - 1) (by omega) q214) rfl rfl t212 (wG Z) rfl (by simp [cat_i, cat_l, cat_d, cat_rf]) (wF Z (by omega)) (wO Z (by omega) (by decide)) (zM _) M M rfl rfl ?_
      refine J_icmp_eq Z.1 1469 dL_law_738 (by decide) (fun c216 => ?_) (fun c216 => ?_)
      · rw [if_pos c216] at hf
        exact pL_law_b1469_ok Z hK hE hk18 _ _ _ _ _ M hf
      · rw [if_neg c216] at hf
        refine J_iconst Z.1 (v := 0) (by decide) dL_law_741 ?_
        exact absurd (congrArg Prod.fst (Option.some.inj hf)) (show ¬ ((0 : Int32) = 1) from by decide)
    rw [if_neg c197] at hf
    by_cases c217 : x4 = 15
    · rw [if_pos c217] at hf
      refine J_tabIn (off := 710) Z.1 743 dL_law_33 (by rw [c217]; decide) (by rw [c217]; decide) (by rw [c217]; decide) (by decide) ?_
      refine J_aload_n Z.1 1 dL_law_743 rfl rfl ?_
      refine J_aload_n Z.1 0 dL_law_744 rfl rfl ?_
      refine J_iload_n Z.1 3 dL_law_745 rfl rfl ?_
      refine J_iconst Z.1 (v := 1) (by decide) dL_law_746 ?_
      refine J_iadd Z.1 dL_law_747 ?_
      replace hf := ix_i hf
      obtain ⟨i218, hf⟩ := hf
      refine J_ialdK Z.1 dL_law_748 t1 (by rw [wE Z hE]; exact i218) ?_
      rw [wE Z hE]
      refine J_aload_n Z.1 0 dL_law_749 rfl rfl ?_
      refine J_iload_n Z.1 3 dL_law_750 rfl rfl ?_
      refine J_iconst Z.1 (v := 2) (by decide) dL_law_751 ?_
      refine J_iadd Z.1 dL_law_752 ?_
      replace hf := ix_i hf
      obtain ⟨i219, hf⟩ := hf
      refine J_ialdK Z.1 dL_law_753 t1 (by rw [wE Z hE]; exact i219) ?_
      rw [wE Z hE]
      refine J_i2l Z.1 dL_law_754 ?_
      refine J_bipush Z.1 (v := 32) (by decide) dL_law_755 ?_
      refine J_lshl Z.1 dL_law_757 ?_
      refine J_aload_n Z.1 0 dL_law_758 rfl rfl ?_
      refine J_iload_n Z.1 3 dL_law_759 rfl rfl ?_
      refine J_iconst Z.1 (v := 3) (by decide) dL_law_760 ?_
      refine J_iadd Z.1 dL_law_761 ?_
      replace hf := ix_i hf
      obtain ⟨i220, hf⟩ := hf
      refine J_ialdK Z.1 dL_law_762 t1 (by rw [wE Z hE]; exact i220) ?_
      rw [wE Z hE]
      refine J_i2l Z.1 dL_law_763 ?_
      refine J_ldc2 Z.1 q_2175 dL_law_764 ?_
      refine J_land Z.1 dL_law_767 ?_
      refine J_lor Z.1 dL_law_768 ?_
      refine J_aload_n Z.1 0 dL_law_769 rfl rfl ?_
      refine J_iload_n Z.1 3 dL_law_770 rfl rfl ?_
      refine J_iconst Z.1 (v := 4) (by decide) dL_law_771 ?_
      refine J_iadd Z.1 dL_law_772 ?_
      replace hf := ix_i hf
      obtain ⟨i221, hf⟩ := hf
      refine J_ialdK Z.1 dL_law_773 t1 (by rw [wE Z hE]; exact i221) ?_
      rw [wE Z hE]
      replace hf := tg_i hf
      obtain ⟨t222, hf⟩ := hf
      replace hf := bd2_i hf
      obtain ⟨x225, h223, q224, hf⟩ := hf
      refine J_callV (ci := 10) (as := [.int (hI E.2.1 p0 (Int32.toNatClampNeg (l3 + 1))), .long (((Int32.toInt64 (hI E.2.1 p0 (Int32.toNatClampNeg (l3 + 2)))) <<< (Int32.toInt64 32 &&& 63)) ||| ((Int32.toInt64 (hI E.2.1 p0 (Int32.toNatClampNeg (l3 + 3)))) &&& 4294967295)), .int (hI E.2.1 p0 (Int32.toNatClampNeg (l3 + 4)))]) (rest := []) (sy := [.int x225]) Z.1 dL_law_774 cw_L_85 (pX12_give_ok G (dk - 1) (by omega) q224) rfl rfl t222 (wG Z) rfl (by decide) (wF Z (by omega)) (wO Z (by omega) (by decide)) (zM _) M M rfl rfl ?_
      refine J_aload_n Z.1 2 dL_law_777 rfl rfl ?_
      refine J_aload_n Z.1 0 dL_law_778 rfl rfl ?_
      refine J_iload_n Z.1 3 dL_law_779 rfl rfl ?_
      refine J_iconst Z.1 (v := 1) (by decide) dL_law_780 ?_
      refine J_iadd Z.1 dL_law_781 ?_
      replace hf := ix_i hf
      obtain ⟨i226, hf⟩ := hf
      refine J_ialdK Z.1 dL_law_782 t1 (by rw [wE Z hE]; exact i226) ?_
      rw [wE Z hE]
      refine J_aload_n Z.1 0 dL_law_783 rfl rfl ?_
      refine J_iload_n Z.1 3 dL_law_784 rfl rfl ?_
      refine J_iconst Z.1 (v := 2) (by decide) dL_law_785 ?_
      refine J_iadd Z.1 dL_law_786 ?_
      replace hf := ix_i hf
      obtain ⟨i227, hf⟩ := hf
      refine J_ialdK Z.1 dL_law_787 t1 (by rw [wE Z hE]; exact i227) ?_
      rw [wE Z hE]
      refine J_i2l Z.1 dL_law_788 ?_
      refine J_bipush Z.1 (v := 32) (by decide) dL_law_789 ?_
      refine J_lshl Z.1 dL_law_791 ?_
      refine J_aload_n Z.1 0 dL_law_792 rfl rfl ?_
      refine J_iload_n Z.1 3 dL_law_793 rfl rfl ?_
      refine J_iconst Z.1 (v := 3) (by decide) dL_law_794 ?_
      refine J_iadd Z.1 dL_law_795 ?_
      replace hf := ix_i hf
      obtain ⟨i228, hf⟩ := hf
      refine J_ialdK Z.1 dL_law_796 t1 (by rw [wE Z hE]; exact i228) ?_
      rw [wE Z hE]
      refine J_i2l Z.1 dL_law_797 ?_
      refine J_ldc2 Z.1 q_2175 dL_law_798 ?_
      refine J_land Z.1 dL_law_801 ?_
      refine J_lor Z.1 dL_law_802 ?_
      refine J_aload_n Z.1 0 dL_law_803 rfl rfl ?_
      refine J_iload_n Z.1 3 dL_law_804 rfl rfl ?_
      refine J_iconst Z.1 (v := 4) (by decide) dL_law_805 ?_
      refine J_iadd Z.1 dL_law_806 ?_
      replace hf := ix_i hf
      obtain ⟨i229, hf⟩ := hf
      refine J_ialdK Z.1 dL_law_807 t1 (by rw [wE Z hE]; exact i229) ?_
      rw [wE Z hE]
      replace hf := tg_i hf
      obtain ⟨t230, hf⟩ := hf
      replace hf := bd2_i hf
      obtain ⟨x233, h231, q232, hf⟩ := hf
      refine J_callV (ci := 11) (as := [.int (hI E.2.1 p0 (Int32.toNatClampNeg (l3 + 1))), .long (((Int32.toInt64 (hI E.2.1 p0 (Int32.toNatClampNeg (l3 + 2)))) <<< (Int32.toInt64 32 &&& 63)) ||| ((Int32.toInt64 (hI E.2.1 p0 (Int32.toNatClampNeg (l3 + 3)))) &&& 4294967295)), .int (hI E.2.1 p0 (Int32.toNatClampNeg (l3 + 4)))]) (rest := [.int x225]) (sy := [.int x233, .int x225]) Z.1 dL_law_808 cw_L_89 (pX13_give_ok G (dk - 1) (by omega) q232) rfl rfl t230 (wG Z) rfl (by simp [cat_i, cat_l, cat_d, cat_rf]) (wF Z (by omega)) (wO Z (by omega) (by decide)) (zM _) M M rfl rfl ?_
      refine J_icmp_eq Z.1 1469 dL_law_811 (by decide) (fun c234 => ?_) (fun c234 => ?_)
      · rw [if_pos c234] at hf
        exact pL_law_b1469_ok Z hK hE hk18 _ _ _ _ _ M hf
      · rw [if_neg c234] at hf
        refine J_iconst Z.1 (v := 0) (by decide) dL_law_814 ?_
        exact absurd (congrArg Prod.fst (Option.some.inj hf)) (show ¬ ((0 : Int32) = 1) from by decide)
    rw [if_neg c217] at hf
    by_cases c235 : x4 = 16
    · rw [if_pos c235] at hf
      refine J_tabIn (off := 783) Z.1 816 dL_law_33 (by rw [c235]; decide) (by rw [c235]; decide) (by rw [c235]; decide) (by decide) ?_
      refine J_aload_n Z.1 1 dL_law_816 rfl rfl ?_
      refine J_aload_n Z.1 0 dL_law_817 rfl rfl ?_
      refine J_iload_n Z.1 3 dL_law_818 rfl rfl ?_
      refine J_iconst Z.1 (v := 1) (by decide) dL_law_819 ?_
      refine J_iadd Z.1 dL_law_820 ?_
      replace hf := ix_i hf
      obtain ⟨i236, hf⟩ := hf
      refine J_ialdK Z.1 dL_law_821 t1 (by rw [wE Z hE]; exact i236) ?_
      rw [wE Z hE]
      refine J_aload_n Z.1 0 dL_law_822 rfl rfl ?_
      refine J_iload_n Z.1 3 dL_law_823 rfl rfl ?_
      refine J_iconst Z.1 (v := 2) (by decide) dL_law_824 ?_
      refine J_iadd Z.1 dL_law_825 ?_
      replace hf := ix_i hf
      obtain ⟨i237, hf⟩ := hf
      refine J_ialdK Z.1 dL_law_826 t1 (by rw [wE Z hE]; exact i237) ?_
      rw [wE Z hE]
      refine J_i2l Z.1 dL_law_827 ?_
      refine J_bipush Z.1 (v := 32) (by decide) dL_law_828 ?_
      refine J_lshl Z.1 dL_law_830 ?_
      refine J_aload_n Z.1 0 dL_law_831 rfl rfl ?_
      refine J_iload_n Z.1 3 dL_law_832 rfl rfl ?_
      refine J_iconst Z.1 (v := 3) (by decide) dL_law_833 ?_
      refine J_iadd Z.1 dL_law_834 ?_
      replace hf := ix_i hf
      obtain ⟨i238, hf⟩ := hf
      refine J_ialdK Z.1 dL_law_835 t1 (by rw [wE Z hE]; exact i238) ?_
      rw [wE Z hE]
      refine J_i2l Z.1 dL_law_836 ?_
      refine J_ldc2 Z.1 q_2175 dL_law_837 ?_
      refine J_land Z.1 dL_law_840 ?_
      refine J_lor Z.1 dL_law_841 ?_
      refine J_aload_n Z.1 0 dL_law_842 rfl rfl ?_
      refine J_iload_n Z.1 3 dL_law_843 rfl rfl ?_
      refine J_iconst Z.1 (v := 4) (by decide) dL_law_844 ?_
      refine J_iadd Z.1 dL_law_845 ?_
      replace hf := ix_i hf
      obtain ⟨i239, hf⟩ := hf
      refine J_ialdK Z.1 dL_law_846 t1 (by rw [wE Z hE]; exact i239) ?_
      rw [wE Z hE]
      replace hf := tg_i hf
      obtain ⟨t240, hf⟩ := hf
      replace hf := bd2_i hf
      obtain ⟨x243, h241, q242, hf⟩ := hf
      refine J_callV (ci := 10) (as := [.int (hI E.2.1 p0 (Int32.toNatClampNeg (l3 + 1))), .long (((Int32.toInt64 (hI E.2.1 p0 (Int32.toNatClampNeg (l3 + 2)))) <<< (Int32.toInt64 32 &&& 63)) ||| ((Int32.toInt64 (hI E.2.1 p0 (Int32.toNatClampNeg (l3 + 3)))) &&& 4294967295)), .int (hI E.2.1 p0 (Int32.toNatClampNeg (l3 + 4)))]) (rest := []) (sy := [.int x243]) Z.1 dL_law_847 cw_L_90 (pX12_poke_ok G (dk - 1) (by omega) q242) rfl rfl t240 (wG Z) rfl (by decide) (wF Z (by omega)) (wO Z (by omega) (by decide)) (zM _) M M rfl rfl ?_
      refine J_aload_n Z.1 2 dL_law_850 rfl rfl ?_
      refine J_aload_n Z.1 0 dL_law_851 rfl rfl ?_
      refine J_iload_n Z.1 3 dL_law_852 rfl rfl ?_
      refine J_iconst Z.1 (v := 1) (by decide) dL_law_853 ?_
      refine J_iadd Z.1 dL_law_854 ?_
      replace hf := ix_i hf
      obtain ⟨i244, hf⟩ := hf
      refine J_ialdK Z.1 dL_law_855 t1 (by rw [wE Z hE]; exact i244) ?_
      rw [wE Z hE]
      refine J_aload_n Z.1 0 dL_law_856 rfl rfl ?_
      refine J_iload_n Z.1 3 dL_law_857 rfl rfl ?_
      refine J_iconst Z.1 (v := 2) (by decide) dL_law_858 ?_
      refine J_iadd Z.1 dL_law_859 ?_
      replace hf := ix_i hf
      obtain ⟨i245, hf⟩ := hf
      refine J_ialdK Z.1 dL_law_860 t1 (by rw [wE Z hE]; exact i245) ?_
      rw [wE Z hE]
      refine J_i2l Z.1 dL_law_861 ?_
      refine J_bipush Z.1 (v := 32) (by decide) dL_law_862 ?_
      refine J_lshl Z.1 dL_law_864 ?_
      refine J_aload_n Z.1 0 dL_law_865 rfl rfl ?_
      refine J_iload_n Z.1 3 dL_law_866 rfl rfl ?_
      refine J_iconst Z.1 (v := 3) (by decide) dL_law_867 ?_
      refine J_iadd Z.1 dL_law_868 ?_
      replace hf := ix_i hf
      obtain ⟨i246, hf⟩ := hf
      refine J_ialdK Z.1 dL_law_869 t1 (by rw [wE Z hE]; exact i246) ?_
      rw [wE Z hE]
      refine J_i2l Z.1 dL_law_870 ?_
      refine J_ldc2 Z.1 q_2175 dL_law_871 ?_
      refine J_land Z.1 dL_law_874 ?_
      refine J_lor Z.1 dL_law_875 ?_
      refine J_aload_n Z.1 0 dL_law_876 rfl rfl ?_
      refine J_iload_n Z.1 3 dL_law_877 rfl rfl ?_
      refine J_iconst Z.1 (v := 4) (by decide) dL_law_878 ?_
      refine J_iadd Z.1 dL_law_879 ?_
      replace hf := ix_i hf
      obtain ⟨i247, hf⟩ := hf
      refine J_ialdK Z.1 dL_law_880 t1 (by rw [wE Z hE]; exact i247) ?_
      rw [wE Z hE]
      replace hf := tg_i hf
      obtain ⟨t248, hf⟩ := hf
      replace hf := bd2_i hf
      obtain ⟨x251, h249, q250, hf⟩ := hf
      refine J_callV (ci := 11) (as := [.int (hI E.2.1 p0 (Int32.toNatClampNeg (l3 + 1))), .long (((Int32.toInt64 (hI E.2.1 p0 (Int32.toNatClampNeg (l3 + 2)))) <<< (Int32.toInt64 32 &&& 63)) ||| ((Int32.toInt64 (hI E.2.1 p0 (Int32.toNatClampNeg (l3 + 3)))) &&& 4294967295)), .int (hI E.2.1 p0 (Int32.toNatClampNeg (l3 + 4)))]) (rest := [.int x243]) (sy := [.int x251, .int x243]) Z.1 dL_law_881 cw_L_93 (pX13_poke_ok G (dk - 1) (by omega) q250) rfl rfl t248 (wG Z) rfl (by simp [cat_i, cat_l, cat_d, cat_rf]) (wF Z (by omega)) (wO Z (by omega) (by decide)) (zM _) M M rfl rfl ?_
      refine J_icmp_eq Z.1 1469 dL_law_884 (by decide) (fun c252 => ?_) (fun c252 => ?_)
      · rw [if_pos c252] at hf
        exact pL_law_b1469_ok Z hK hE hk18 _ _ _ _ _ M hf
      · rw [if_neg c252] at hf
        refine J_iconst Z.1 (v := 0) (by decide) dL_law_887 ?_
        exact absurd (congrArg Prod.fst (Option.some.inj hf)) (show ¬ ((0 : Int32) = 1) from by decide)
    rw [if_neg c235] at hf
    by_cases c253 : x4 = 17
    · rw [if_pos c253] at hf
      refine J_tabIn (off := 856) Z.1 889 dL_law_33 (by rw [c253]; decide) (by rw [c253]; decide) (by rw [c253]; decide) (by decide) ?_
      refine J_aload_n Z.1 1 dL_law_889 rfl rfl ?_
      refine J_aload_n Z.1 0 dL_law_890 rfl rfl ?_
      refine J_iload_n Z.1 3 dL_law_891 rfl rfl ?_
      refine J_iconst Z.1 (v := 1) (by decide) dL_law_892 ?_
      refine J_iadd Z.1 dL_law_893 ?_
      replace hf := ix_i hf
      obtain ⟨i254, hf⟩ := hf
      refine J_ialdK Z.1 dL_law_894 t1 (by rw [wE Z hE]; exact i254) ?_
      rw [wE Z hE]
      refine J_aload_n Z.1 0 dL_law_895 rfl rfl ?_
      refine J_iload_n Z.1 3 dL_law_896 rfl rfl ?_
      refine J_iconst Z.1 (v := 2) (by decide) dL_law_897 ?_
      refine J_iadd Z.1 dL_law_898 ?_
      replace hf := ix_i hf
      obtain ⟨i255, hf⟩ := hf
      refine J_ialdK Z.1 dL_law_899 t1 (by rw [wE Z hE]; exact i255) ?_
      rw [wE Z hE]
      replace hf := tg_i hf
      obtain ⟨t256, hf⟩ := hf
      replace hf := bd2_i hf
      obtain ⟨x259, h257, q258, hf⟩ := hf
      refine J_callV (ci := 10) (as := [.int (hI E.2.1 p0 (Int32.toNatClampNeg (l3 + 1))), .int (hI E.2.1 p0 (Int32.toNatClampNeg (l3 + 2)))]) (rest := []) (sy := [.int x259]) Z.1 dL_law_900 cw_L_94 (pX12_strange_ok G (dk - 1) (by omega) q258) rfl rfl t256 (wG Z) rfl (by decide) (wF Z (by omega)) (wO Z (by omega) (by decide)) (zM _) M M rfl rfl ?_
      refine J_aload_n Z.1 2 dL_law_903 rfl rfl ?_
      refine J_aload_n Z.1 0 dL_law_904 rfl rfl ?_
      refine J_iload_n Z.1 3 dL_law_905 rfl rfl ?_
      refine J_iconst Z.1 (v := 1) (by decide) dL_law_906 ?_
      refine J_iadd Z.1 dL_law_907 ?_
      replace hf := ix_i hf
      obtain ⟨i260, hf⟩ := hf
      refine J_ialdK Z.1 dL_law_908 t1 (by rw [wE Z hE]; exact i260) ?_
      rw [wE Z hE]
      refine J_aload_n Z.1 0 dL_law_909 rfl rfl ?_
      refine J_iload_n Z.1 3 dL_law_910 rfl rfl ?_
      refine J_iconst Z.1 (v := 2) (by decide) dL_law_911 ?_
      refine J_iadd Z.1 dL_law_912 ?_
      replace hf := ix_i hf
      obtain ⟨i261, hf⟩ := hf
      refine J_ialdK Z.1 dL_law_913 t1 (by rw [wE Z hE]; exact i261) ?_
      rw [wE Z hE]
      replace hf := tg_i hf
      obtain ⟨t262, hf⟩ := hf
      replace hf := bd2_i hf
      obtain ⟨x265, h263, q264, hf⟩ := hf
      refine J_callV (ci := 11) (as := [.int (hI E.2.1 p0 (Int32.toNatClampNeg (l3 + 1))), .int (hI E.2.1 p0 (Int32.toNatClampNeg (l3 + 2)))]) (rest := [.int x259]) (sy := [.int x265, .int x259]) Z.1 dL_law_914 cw_L_97 (pX13_strange_ok G (dk - 1) (by omega) q264) rfl rfl t262 (wG Z) rfl (by simp [cat_i, cat_l, cat_d, cat_rf]) (wF Z (by omega)) (wO Z (by omega) (by decide)) (zM _) M M rfl rfl ?_
      refine J_icmp_eq Z.1 1469 dL_law_917 (by decide) (fun c266 => ?_) (fun c266 => ?_)
      · rw [if_pos c266] at hf
        exact pL_law_b1469_ok Z hK hE hk18 _ _ _ _ _ M hf
      · rw [if_neg c266] at hf
        refine J_iconst Z.1 (v := 0) (by decide) dL_law_920 ?_
        exact absurd (congrArg Prod.fst (Option.some.inj hf)) (show ¬ ((0 : Int32) = 1) from by decide)
    rw [if_neg c253] at hf
    by_cases c267 : x4 = 18
    · rw [if_pos c267] at hf
      refine J_tabIn (off := 889) Z.1 922 dL_law_33 (by rw [c267]; decide) (by rw [c267]; decide) (by rw [c267]; decide) (by decide) ?_
      refine J_aload_n Z.1 1 dL_law_922 rfl rfl ?_
      refine J_aload_n Z.1 0 dL_law_923 rfl rfl ?_
      refine J_iload_n Z.1 3 dL_law_924 rfl rfl ?_
      refine J_iconst Z.1 (v := 1) (by decide) dL_law_925 ?_
      refine J_iadd Z.1 dL_law_926 ?_
      replace hf := ix_i hf
      obtain ⟨i268, hf⟩ := hf
      refine J_ialdK Z.1 dL_law_927 t1 (by rw [wE Z hE]; exact i268) ?_
      rw [wE Z hE]
      refine J_aload_n Z.1 0 dL_law_928 rfl rfl ?_
      refine J_iload_n Z.1 3 dL_law_929 rfl rfl ?_
      refine J_iconst Z.1 (v := 2) (by decide) dL_law_930 ?_
      refine J_iadd Z.1 dL_law_931 ?_
      replace hf := ix_i hf
      obtain ⟨i269, hf⟩ := hf
      refine J_ialdK Z.1 dL_law_932 t1 (by rw [wE Z hE]; exact i269) ?_
      rw [wE Z hE]
      refine J_aload_n Z.1 0 dL_law_933 rfl rfl ?_
      refine J_iload_n Z.1 3 dL_law_934 rfl rfl ?_
      refine J_iconst Z.1 (v := 3) (by decide) dL_law_935 ?_
      refine J_iadd Z.1 dL_law_936 ?_
      replace hf := ix_i hf
      obtain ⟨i270, hf⟩ := hf
      refine J_ialdK Z.1 dL_law_937 t1 (by rw [wE Z hE]; exact i270) ?_
      rw [wE Z hE]
      replace hf := tg_i hf
      obtain ⟨t271, hf⟩ := hf
      replace hf := bd2_i hf
      obtain ⟨x274, h272, q273, hf⟩ := hf
      refine J_callV (ci := 10) (as := [.int (hI E.2.1 p0 (Int32.toNatClampNeg (l3 + 1))), .int (hI E.2.1 p0 (Int32.toNatClampNeg (l3 + 2))), .int (hI E.2.1 p0 (Int32.toNatClampNeg (l3 + 3)))]) (rest := []) (sy := [.int x274]) Z.1 dL_law_938 cw_L_98 (pX12_pokeAll_ok G (dk - 1) (by omega) q273) rfl rfl t271 (wG Z) rfl (by decide) (wF Z (by omega)) (wO Z (by omega) (by decide)) (zM _) M M rfl rfl ?_
      refine J_aload_n Z.1 2 dL_law_941 rfl rfl ?_
      refine J_aload_n Z.1 0 dL_law_942 rfl rfl ?_
      refine J_iload_n Z.1 3 dL_law_943 rfl rfl ?_
      refine J_iconst Z.1 (v := 1) (by decide) dL_law_944 ?_
      refine J_iadd Z.1 dL_law_945 ?_
      replace hf := ix_i hf
      obtain ⟨i275, hf⟩ := hf
      refine J_ialdK Z.1 dL_law_946 t1 (by rw [wE Z hE]; exact i275) ?_
      rw [wE Z hE]
      refine J_aload_n Z.1 0 dL_law_947 rfl rfl ?_
      refine J_iload_n Z.1 3 dL_law_948 rfl rfl ?_
      refine J_iconst Z.1 (v := 2) (by decide) dL_law_949 ?_
      refine J_iadd Z.1 dL_law_950 ?_
      replace hf := ix_i hf
      obtain ⟨i276, hf⟩ := hf
      refine J_ialdK Z.1 dL_law_951 t1 (by rw [wE Z hE]; exact i276) ?_
      rw [wE Z hE]
      refine J_aload_n Z.1 0 dL_law_952 rfl rfl ?_
      refine J_iload_n Z.1 3 dL_law_953 rfl rfl ?_
      refine J_iconst Z.1 (v := 3) (by decide) dL_law_954 ?_
      refine J_iadd Z.1 dL_law_955 ?_
      replace hf := ix_i hf
      obtain ⟨i277, hf⟩ := hf
      refine J_ialdK Z.1 dL_law_956 t1 (by rw [wE Z hE]; exact i277) ?_
      rw [wE Z hE]
      replace hf := tg_i hf
      obtain ⟨t278, hf⟩ := hf
      replace hf := bd2_i hf
      obtain ⟨x281, h279, q280, hf⟩ := hf
      refine J_callV (ci := 11) (as := [.int (hI E.2.1 p0 (Int32.toNatClampNeg (l3 + 1))), .int (hI E.2.1 p0 (Int32.toNatClampNeg (l3 + 2))), .int (hI E.2.1 p0 (Int32.toNatClampNeg (l3 + 3)))]) (rest := [.int x274]) (sy := [.int x281, .int x274]) Z.1 dL_law_957 cw_L_102 (pX13_pokeAll_ok G (dk - 1) (by omega) q280) rfl rfl t278 (wG Z) rfl (by simp [cat_i, cat_l, cat_d, cat_rf]) (wF Z (by omega)) (wO Z (by omega) (by decide)) (zM _) M M rfl rfl ?_
      refine J_icmp_eq Z.1 1469 dL_law_960 (by decide) (fun c282 => ?_) (fun c282 => ?_)
      · rw [if_pos c282] at hf
        exact pL_law_b1469_ok Z hK hE hk18 _ _ _ _ _ M hf
      · rw [if_neg c282] at hf
        refine J_iconst Z.1 (v := 0) (by decide) dL_law_963 ?_
        exact absurd (congrArg Prod.fst (Option.some.inj hf)) (show ¬ ((0 : Int32) = 1) from by decide)
    rw [if_neg c267] at hf
    by_cases c283 : x4 = 19
    · rw [if_pos c283] at hf
      refine J_tabIn (off := 932) Z.1 965 dL_law_33 (by rw [c283]; decide) (by rw [c283]; decide) (by rw [c283]; decide) (by decide) ?_
      refine J_aload_n Z.1 1 dL_law_965 rfl rfl ?_
      refine J_aload_n Z.1 0 dL_law_966 rfl rfl ?_
      refine J_iload_n Z.1 3 dL_law_967 rfl rfl ?_
      refine J_iconst Z.1 (v := 1) (by decide) dL_law_968 ?_
      refine J_iadd Z.1 dL_law_969 ?_
      replace hf := ix_i hf
      obtain ⟨i284, hf⟩ := hf
      refine J_ialdK Z.1 dL_law_970 t1 (by rw [wE Z hE]; exact i284) ?_
      rw [wE Z hE]
      refine J_aload_n Z.1 0 dL_law_971 rfl rfl ?_
      refine J_iload_n Z.1 3 dL_law_972 rfl rfl ?_
      refine J_iconst Z.1 (v := 2) (by decide) dL_law_973 ?_
      refine J_iadd Z.1 dL_law_974 ?_
      replace hf := ix_i hf
      obtain ⟨i285, hf⟩ := hf
      refine J_ialdK Z.1 dL_law_975 t1 (by rw [wE Z hE]; exact i285) ?_
      rw [wE Z hE]
      refine J_aload_n Z.1 0 dL_law_976 rfl rfl ?_
      refine J_iload_n Z.1 3 dL_law_977 rfl rfl ?_
      refine J_iconst Z.1 (v := 3) (by decide) dL_law_978 ?_
      refine J_iadd Z.1 dL_law_979 ?_
      replace hf := ix_i hf
      obtain ⟨i286, hf⟩ := hf
      refine J_ialdK Z.1 dL_law_980 t1 (by rw [wE Z hE]; exact i286) ?_
      rw [wE Z hE]
      replace hf := tg_i hf
      obtain ⟨t287, hf⟩ := hf
      replace hf := bd2_i hf
      obtain ⟨x290, h288, q289, hf⟩ := hf
      refine J_callV (ci := 10) (as := [.int (hI E.2.1 p0 (Int32.toNatClampNeg (l3 + 1))), .int (hI E.2.1 p0 (Int32.toNatClampNeg (l3 + 2))), .int (hI E.2.1 p0 (Int32.toNatClampNeg (l3 + 3)))]) (rest := []) (sy := [.int x290]) Z.1 dL_law_981 cw_L_103 (pX12_peekAll_ok G (dk - 1) (by omega) q289) rfl rfl t287 (wG Z) rfl (by decide) (wF Z (by omega)) (wO Z (by omega) (by decide)) (zM _) M M rfl rfl ?_
      refine J_aload_n Z.1 2 dL_law_984 rfl rfl ?_
      refine J_aload_n Z.1 0 dL_law_985 rfl rfl ?_
      refine J_iload_n Z.1 3 dL_law_986 rfl rfl ?_
      refine J_iconst Z.1 (v := 1) (by decide) dL_law_987 ?_
      refine J_iadd Z.1 dL_law_988 ?_
      replace hf := ix_i hf
      obtain ⟨i291, hf⟩ := hf
      refine J_ialdK Z.1 dL_law_989 t1 (by rw [wE Z hE]; exact i291) ?_
      rw [wE Z hE]
      refine J_aload_n Z.1 0 dL_law_990 rfl rfl ?_
      refine J_iload_n Z.1 3 dL_law_991 rfl rfl ?_
      refine J_iconst Z.1 (v := 2) (by decide) dL_law_992 ?_
      refine J_iadd Z.1 dL_law_993 ?_
      replace hf := ix_i hf
      obtain ⟨i292, hf⟩ := hf
      refine J_ialdK Z.1 dL_law_994 t1 (by rw [wE Z hE]; exact i292) ?_
      rw [wE Z hE]
      refine J_aload_n Z.1 0 dL_law_995 rfl rfl ?_
      refine J_iload_n Z.1 3 dL_law_996 rfl rfl ?_
      refine J_iconst Z.1 (v := 3) (by decide) dL_law_997 ?_
      refine J_iadd Z.1 dL_law_998 ?_
      replace hf := ix_i hf
      obtain ⟨i293, hf⟩ := hf
      refine J_ialdK Z.1 dL_law_999 t1 (by rw [wE Z hE]; exact i293) ?_
      rw [wE Z hE]
      replace hf := tg_i hf
      obtain ⟨t294, hf⟩ := hf
      replace hf := bd2_i hf
      obtain ⟨x297, h295, q296, hf⟩ := hf
      refine J_callV (ci := 11) (as := [.int (hI E.2.1 p0 (Int32.toNatClampNeg (l3 + 1))), .int (hI E.2.1 p0 (Int32.toNatClampNeg (l3 + 2))), .int (hI E.2.1 p0 (Int32.toNatClampNeg (l3 + 3)))]) (rest := [.int x290]) (sy := [.int x297, .int x290]) Z.1 dL_law_1000 cw_L_106 (pX13_peekAll_ok G (dk - 1) (by omega) q296) rfl rfl t294 (wG Z) rfl (by simp [cat_i, cat_l, cat_d, cat_rf]) (wF Z (by omega)) (wO Z (by omega) (by decide)) (zM _) M M rfl rfl ?_
      refine J_icmp_eq Z.1 1469 dL_law_1003 (by decide) (fun c298 => ?_) (fun c298 => ?_)
      · rw [if_pos c298] at hf
        exact pL_law_b1469_ok Z hK hE hk18 _ _ _ _ _ M hf
      · rw [if_neg c298] at hf
        refine J_iconst Z.1 (v := 0) (by decide) dL_law_1006 ?_
        exact absurd (congrArg Prod.fst (Option.some.inj hf)) (show ¬ ((0 : Int32) = 1) from by decide)
    rw [if_neg c283] at hf
    by_cases c299 : x4 = 20
    · rw [if_pos c299] at hf
      refine J_tabIn (off := 975) Z.1 1008 dL_law_33 (by rw [c299]; decide) (by rw [c299]; decide) (by rw [c299]; decide) (by decide) ?_
      refine J_aload_n Z.1 1 dL_law_1008 rfl rfl ?_
      refine J_aload_n Z.1 0 dL_law_1009 rfl rfl ?_
      refine J_iload_n Z.1 3 dL_law_1010 rfl rfl ?_
      refine J_iconst Z.1 (v := 1) (by decide) dL_law_1011 ?_
      refine J_iadd Z.1 dL_law_1012 ?_
      replace hf := ix_i hf
      obtain ⟨i300, hf⟩ := hf
      refine J_ialdK Z.1 dL_law_1013 t1 (by rw [wE Z hE]; exact i300) ?_
      rw [wE Z hE]
      replace hf := tg_i hf
      obtain ⟨t301, hf⟩ := hf
      replace hf := bd2_i hf
      obtain ⟨x304, h302, q303, hf⟩ := hf
      refine J_callV (ci := 10) (as := [.int (hI E.2.1 p0 (Int32.toNatClampNeg (l3 + 1)))]) (rest := []) (sy := [.int x304]) Z.1 dL_law_1014 cw_L_107 (pX12_drop_ok G (dk - 1) (by omega) q303) rfl rfl t301 (wG Z) rfl (by decide) (wF Z (by omega)) (wO Z (by omega) (by decide)) (zM _) M M rfl rfl ?_
      refine J_aload_n Z.1 2 dL_law_1017 rfl rfl ?_
      refine J_aload_n Z.1 0 dL_law_1018 rfl rfl ?_
      refine J_iload_n Z.1 3 dL_law_1019 rfl rfl ?_
      refine J_iconst Z.1 (v := 1) (by decide) dL_law_1020 ?_
      refine J_iadd Z.1 dL_law_1021 ?_
      replace hf := ix_i hf
      obtain ⟨i305, hf⟩ := hf
      refine J_ialdK Z.1 dL_law_1022 t1 (by rw [wE Z hE]; exact i305) ?_
      rw [wE Z hE]
      replace hf := tg_i hf
      obtain ⟨t306, hf⟩ := hf
      replace hf := bd2_i hf
      obtain ⟨x309, h307, q308, hf⟩ := hf
      refine J_callV (ci := 11) (as := [.int (hI E.2.1 p0 (Int32.toNatClampNeg (l3 + 1)))]) (rest := [.int x304]) (sy := [.int x309, .int x304]) Z.1 dL_law_1023 cw_L_111 (pX13_drop_ok G (dk - 1) (by omega) q308) rfl rfl t306 (wG Z) rfl (by simp [cat_i, cat_l, cat_d, cat_rf]) (wF Z (by omega)) (wO Z (by omega) (by decide)) (zM _) M M rfl rfl ?_
      refine J_icmp_eq Z.1 1469 dL_law_1026 (by decide) (fun c310 => ?_) (fun c310 => ?_)
      · rw [if_pos c310] at hf
        exact pL_law_b1469_ok Z hK hE hk18 _ _ _ _ _ M hf
      · rw [if_neg c310] at hf
        refine J_iconst Z.1 (v := 0) (by decide) dL_law_1029 ?_
        exact absurd (congrArg Prod.fst (Option.some.inj hf)) (show ¬ ((0 : Int32) = 1) from by decide)
    rw [if_neg c299] at hf
    by_cases c311 : x4 = 21
    · rw [if_pos c311] at hf
      refine J_tabIn (off := 998) Z.1 1031 dL_law_33 (by rw [c311]; decide) (by rw [c311]; decide) (by rw [c311]; decide) (by decide) ?_
      refine J_aload_n Z.1 1 dL_law_1031 rfl rfl ?_
      refine J_aload_n Z.1 0 dL_law_1032 rfl rfl ?_
      refine J_iload_n Z.1 3 dL_law_1033 rfl rfl ?_
      refine J_iconst Z.1 (v := 1) (by decide) dL_law_1034 ?_
      refine J_iadd Z.1 dL_law_1035 ?_
      replace hf := ix_i hf
      obtain ⟨i312, hf⟩ := hf
      refine J_ialdK Z.1 dL_law_1036 t1 (by rw [wE Z hE]; exact i312) ?_
      rw [wE Z hE]
      refine J_aload_n Z.1 0 dL_law_1037 rfl rfl ?_
      refine J_iload_n Z.1 3 dL_law_1038 rfl rfl ?_
      refine J_iconst Z.1 (v := 2) (by decide) dL_law_1039 ?_
      refine J_iadd Z.1 dL_law_1040 ?_
      replace hf := ix_i hf
      obtain ⟨i313, hf⟩ := hf
      refine J_ialdK Z.1 dL_law_1041 t1 (by rw [wE Z hE]; exact i313) ?_
      rw [wE Z hE]
      replace hf := tg_i hf
      obtain ⟨t314, hf⟩ := hf
      replace hf := bd2_i hf
      obtain ⟨x317, h315, q316, hf⟩ := hf
      refine J_callV (ci := 10) (as := [.int (hI E.2.1 p0 (Int32.toNatClampNeg (l3 + 1))), .int (hI E.2.1 p0 (Int32.toNatClampNeg (l3 + 2)))]) (rest := []) (sy := [.int x317]) Z.1 dL_law_1042 cw_L_112 (pX12_rule_ok G (dk - 1) (by omega) q316) rfl rfl t314 (wG Z) rfl (by decide) (wF Z (by omega)) (wO Z (by omega) (by decide)) (zM _) M M rfl rfl ?_
      refine J_aload_n Z.1 2 dL_law_1045 rfl rfl ?_
      refine J_aload_n Z.1 0 dL_law_1046 rfl rfl ?_
      refine J_iload_n Z.1 3 dL_law_1047 rfl rfl ?_
      refine J_iconst Z.1 (v := 1) (by decide) dL_law_1048 ?_
      refine J_iadd Z.1 dL_law_1049 ?_
      replace hf := ix_i hf
      obtain ⟨i318, hf⟩ := hf
      refine J_ialdK Z.1 dL_law_1050 t1 (by rw [wE Z hE]; exact i318) ?_
      rw [wE Z hE]
      refine J_aload_n Z.1 0 dL_law_1051 rfl rfl ?_
      refine J_iload_n Z.1 3 dL_law_1052 rfl rfl ?_
      refine J_iconst Z.1 (v := 2) (by decide) dL_law_1053 ?_
      refine J_iadd Z.1 dL_law_1054 ?_
      replace hf := ix_i hf
      obtain ⟨i319, hf⟩ := hf
      refine J_ialdK Z.1 dL_law_1055 t1 (by rw [wE Z hE]; exact i319) ?_
      rw [wE Z hE]
      replace hf := tg_i hf
      obtain ⟨t320, hf⟩ := hf
      replace hf := bd2_i hf
      obtain ⟨x323, h321, q322, hf⟩ := hf
      refine J_callV (ci := 11) (as := [.int (hI E.2.1 p0 (Int32.toNatClampNeg (l3 + 1))), .int (hI E.2.1 p0 (Int32.toNatClampNeg (l3 + 2)))]) (rest := [.int x317]) (sy := [.int x323, .int x317]) Z.1 dL_law_1056 cw_L_116 (pX13_rule_ok G (dk - 1) (by omega) q322) rfl rfl t320 (wG Z) rfl (by simp [cat_i, cat_l, cat_d, cat_rf]) (wF Z (by omega)) (wO Z (by omega) (by decide)) (zM _) M M rfl rfl ?_
      refine J_icmp_eq Z.1 1469 dL_law_1059 (by decide) (fun c324 => ?_) (fun c324 => ?_)
      · rw [if_pos c324] at hf
        exact pL_law_b1469_ok Z hK hE hk18 _ _ _ _ _ M hf
      · rw [if_neg c324] at hf
        refine J_iconst Z.1 (v := 0) (by decide) dL_law_1062 ?_
        exact absurd (congrArg Prod.fst (Option.some.inj hf)) (show ¬ ((0 : Int32) = 1) from by decide)
    rw [if_neg c311] at hf
    by_cases c325 : x4 = 22
    · rw [if_pos c325] at hf
      refine J_tabIn (off := 1031) Z.1 1064 dL_law_33 (by rw [c325]; decide) (by rw [c325]; decide) (by rw [c325]; decide) (by decide) ?_
      refine J_aload_n Z.1 1 dL_law_1064 rfl rfl ?_
      replace hf := tg_i hf
      obtain ⟨t326, hf⟩ := hf
      replace hf := bd2_i hf
      obtain ⟨x329, h327, q328, hf⟩ := hf
      refine J_callV (ci := 10) (as := []) (rest := []) (sy := [.int x329]) Z.1 dL_law_1065 cw_L_117 (pX12_run_ok G (dk - 1) (by omega) hE q328) rfl rfl t326 (wG Z) rfl (by decide) (wF Z (by omega)) (wO Z (by omega) (by decide)) (zM _) M M rfl rfl ?_
      refine J_aload_n Z.1 2 dL_law_1068 rfl rfl ?_
      replace hf := tg_i hf
      obtain ⟨t330, hf⟩ := hf
      replace hf := bd2_i hf
      obtain ⟨x333, h331, q332, hf⟩ := hf
      refine J_callV (ci := 11) (as := []) (rest := [.int x329]) (sy := [.int x333, .int x329]) Z.1 dL_law_1069 cw_L_120 (pX13_run_ok G (dk - 1) (by omega) q332) rfl rfl t330 (wG Z) rfl (by simp [cat_i, cat_l, cat_d, cat_rf]) (wF Z (by omega)) (wO Z (by omega) (by decide)) (zM _) M M rfl rfl ?_
      refine J_icmp_eq Z.1 1469 dL_law_1072 (by decide) (fun c334 => ?_) (fun c334 => ?_)
      · rw [if_pos c334] at hf
        exact pL_law_b1469_ok Z hK hE hk18 _ _ _ _ _ M hf
      · rw [if_neg c334] at hf
        refine J_iconst Z.1 (v := 0) (by decide) dL_law_1075 ?_
        exact absurd (congrArg Prod.fst (Option.some.inj hf)) (show ¬ ((0 : Int32) = 1) from by decide)
    rw [if_neg c325] at hf
    by_cases c335 : x4 = 23
    · rw [if_pos c335] at hf
      refine J_tabIn (off := 1044) Z.1 1077 dL_law_33 (by rw [c335]; decide) (by rw [c335]; decide) (by rw [c335]; decide) (by decide) ?_
      refine J_aload_n Z.1 1 dL_law_1077 rfl rfl ?_
      refine J_aload_n Z.1 0 dL_law_1078 rfl rfl ?_
      refine J_iload_n Z.1 3 dL_law_1079 rfl rfl ?_
      refine J_iconst Z.1 (v := 1) (by decide) dL_law_1080 ?_
      refine J_iadd Z.1 dL_law_1081 ?_
      replace hf := ix_i hf
      obtain ⟨i336, hf⟩ := hf
      refine J_ialdK Z.1 dL_law_1082 t1 (by rw [wE Z hE]; exact i336) ?_
      rw [wE Z hE]
      replace hf := tg_i hf
      obtain ⟨t337, hf⟩ := hf
      replace hf := bd2_i hf
      obtain ⟨x340, h338, q339, hf⟩ := hf
      refine J_callV (ci := 10) (as := [.int (hI E.2.1 p0 (Int32.toNatClampNeg (l3 + 1)))]) (rest := []) (sy := [.int x340]) Z.1 dL_law_1083 cw_L_121 (pX12_ran_ok G (dk - 1) (by omega) q339) rfl rfl t337 (wG Z) rfl (by decide) (wF Z (by omega)) (wO Z (by omega) (by decide)) (zM _) M M rfl rfl ?_
      refine J_aload_n Z.1 2 dL_law_1086 rfl rfl ?_
      refine J_aload_n Z.1 0 dL_law_1087 rfl rfl ?_
      refine J_iload_n Z.1 3 dL_law_1088 rfl rfl ?_
      refine J_iconst Z.1 (v := 1) (by decide) dL_law_1089 ?_
      refine J_iadd Z.1 dL_law_1090 ?_
      replace hf := ix_i hf
      obtain ⟨i341, hf⟩ := hf
      refine J_ialdK Z.1 dL_law_1091 t1 (by rw [wE Z hE]; exact i341) ?_
      rw [wE Z hE]
      replace hf := tg_i hf
      obtain ⟨t342, hf⟩ := hf
      replace hf := bd2_i hf
      obtain ⟨x345, h343, q344, hf⟩ := hf
      refine J_callV (ci := 11) (as := [.int (hI E.2.1 p0 (Int32.toNatClampNeg (l3 + 1)))]) (rest := [.int x340]) (sy := [.int x345, .int x340]) Z.1 dL_law_1092 cw_L_124 (pX13_ran_ok G (dk - 1) (by omega) q344) rfl rfl t342 (wG Z) rfl (by simp [cat_i, cat_l, cat_d, cat_rf]) (wF Z (by omega)) (wO Z (by omega) (by decide)) (zM _) M M rfl rfl ?_
      refine J_icmp_eq Z.1 1469 dL_law_1095 (by decide) (fun c346 => ?_) (fun c346 => ?_)
      · rw [if_pos c346] at hf
        exact pL_law_b1469_ok Z hK hE hk18 _ _ _ _ _ M hf
      · rw [if_neg c346] at hf
        refine J_iconst Z.1 (v := 0) (by decide) dL_law_1098 ?_
        exact absurd (congrArg Prod.fst (Option.some.inj hf)) (show ¬ ((0 : Int32) = 1) from by decide)
    rw [if_neg c335] at hf
    by_cases c347 : x4 = 24
    · rw [if_pos c347] at hf
      refine J_tabIn (off := 1067) Z.1 1100 dL_law_33 (by rw [c347]; decide) (by rw [c347]; decide) (by rw [c347]; decide) (by decide) ?_
      refine J_aload_n Z.1 1 dL_law_1100 rfl rfl ?_
      refine J_aload_n Z.1 0 dL_law_1101 rfl rfl ?_
      refine J_iload_n Z.1 3 dL_law_1102 rfl rfl ?_
      refine J_iconst Z.1 (v := 1) (by decide) dL_law_1103 ?_
      refine J_iadd Z.1 dL_law_1104 ?_
      replace hf := ix_i hf
      obtain ⟨i348, hf⟩ := hf
      refine J_ialdK Z.1 dL_law_1105 t1 (by rw [wE Z hE]; exact i348) ?_
      rw [wE Z hE]
      refine J_aload_n Z.1 0 dL_law_1106 rfl rfl ?_
      refine J_iload_n Z.1 3 dL_law_1107 rfl rfl ?_
      refine J_iconst Z.1 (v := 2) (by decide) dL_law_1108 ?_
      refine J_iadd Z.1 dL_law_1109 ?_
      replace hf := ix_i hf
      obtain ⟨i349, hf⟩ := hf
      refine J_ialdK Z.1 dL_law_1110 t1 (by rw [wE Z hE]; exact i349) ?_
      rw [wE Z hE]
      replace hf := tg_i hf
      obtain ⟨t350, hf⟩ := hf
      replace hf := bd2_i hf
      obtain ⟨x353, h351, q352, hf⟩ := hf
      refine J_callV (ci := 10) (as := [.int (hI E.2.1 p0 (Int32.toNatClampNeg (l3 + 1))), .int (hI E.2.1 p0 (Int32.toNatClampNeg (l3 + 2)))]) (rest := []) (sy := [.int x353]) Z.1 dL_law_1111 cw_L_125 (pX12_time_ok G (dk - 1) (by omega) q352) rfl rfl t350 (wG Z) rfl (by decide) (wF Z (by omega)) (wO Z (by omega) (by decide)) (zM _) M M rfl rfl ?_
      refine J_aload_n Z.1 2 dL_law_1114 rfl rfl ?_
      refine J_aload_n Z.1 0 dL_law_1115 rfl rfl ?_
      refine J_iload_n Z.1 3 dL_law_1116 rfl rfl ?_
      refine J_iconst Z.1 (v := 1) (by decide) dL_law_1117 ?_
      refine J_iadd Z.1 dL_law_1118 ?_
      replace hf := ix_i hf
      obtain ⟨i354, hf⟩ := hf
      refine J_ialdK Z.1 dL_law_1119 t1 (by rw [wE Z hE]; exact i354) ?_
      rw [wE Z hE]
      refine J_aload_n Z.1 0 dL_law_1120 rfl rfl ?_
      refine J_iload_n Z.1 3 dL_law_1121 rfl rfl ?_
      refine J_iconst Z.1 (v := 2) (by decide) dL_law_1122 ?_
      refine J_iadd Z.1 dL_law_1123 ?_
      replace hf := ix_i hf
      obtain ⟨i355, hf⟩ := hf
      refine J_ialdK Z.1 dL_law_1124 t1 (by rw [wE Z hE]; exact i355) ?_
      rw [wE Z hE]
      replace hf := tg_i hf
      obtain ⟨t356, hf⟩ := hf
      replace hf := bd2_i hf
      obtain ⟨x359, h357, q358, hf⟩ := hf
      refine J_callV (ci := 11) (as := [.int (hI E.2.1 p0 (Int32.toNatClampNeg (l3 + 1))), .int (hI E.2.1 p0 (Int32.toNatClampNeg (l3 + 2)))]) (rest := [.int x353]) (sy := [.int x359, .int x353]) Z.1 dL_law_1125 cw_L_128 (pX13_time_ok G (dk - 1) (by omega) q358) rfl rfl t356 (wG Z) rfl (by simp [cat_i, cat_l, cat_d, cat_rf]) (wF Z (by omega)) (wO Z (by omega) (by decide)) (zM _) M M rfl rfl ?_
      refine J_icmp_eq Z.1 1469 dL_law_1128 (by decide) (fun c360 => ?_) (fun c360 => ?_)
      · rw [if_pos c360] at hf
        exact pL_law_b1469_ok Z hK hE hk18 _ _ _ _ _ M hf
      · rw [if_neg c360] at hf
        refine J_iconst Z.1 (v := 0) (by decide) dL_law_1131 ?_
        exact absurd (congrArg Prod.fst (Option.some.inj hf)) (show ¬ ((0 : Int32) = 1) from by decide)
    rw [if_neg c347] at hf
    by_cases c361 : x4 = 25
    · rw [if_pos c361] at hf
      refine J_tabIn (off := 1100) Z.1 1133 dL_law_33 (by rw [c361]; decide) (by rw [c361]; decide) (by rw [c361]; decide) (by decide) ?_
      refine J_aload_n Z.1 1 dL_law_1133 rfl rfl ?_
      refine J_aload_n Z.1 0 dL_law_1134 rfl rfl ?_
      refine J_iload_n Z.1 3 dL_law_1135 rfl rfl ?_
      refine J_iconst Z.1 (v := 1) (by decide) dL_law_1136 ?_
      refine J_iadd Z.1 dL_law_1137 ?_
      replace hf := ix_i hf
      obtain ⟨i362, hf⟩ := hf
      refine J_ialdK Z.1 dL_law_1138 t1 (by rw [wE Z hE]; exact i362) ?_
      rw [wE Z hE]
      refine J_aload_n Z.1 0 dL_law_1139 rfl rfl ?_
      refine J_iload_n Z.1 3 dL_law_1140 rfl rfl ?_
      refine J_iconst Z.1 (v := 2) (by decide) dL_law_1141 ?_
      refine J_iadd Z.1 dL_law_1142 ?_
      replace hf := ix_i hf
      obtain ⟨i363, hf⟩ := hf
      refine J_ialdK Z.1 dL_law_1143 t1 (by rw [wE Z hE]; exact i363) ?_
      rw [wE Z hE]
      replace hf := tg_i hf
      obtain ⟨t364, hf⟩ := hf
      replace hf := bd2_i hf
      obtain ⟨x367, h365, q366, hf⟩ := hf
      refine J_callV (ci := 10) (as := [.int (hI E.2.1 p0 (Int32.toNatClampNeg (l3 + 1))), .int (hI E.2.1 p0 (Int32.toNatClampNeg (l3 + 2)))]) (rest := []) (sy := [.int x367]) Z.1 dL_law_1144 cw_L_129 (pX12_sum_ok G (dk - 1) (by omega) q366) rfl rfl t364 (wG Z) rfl (by decide) (wF Z (by omega)) (wO Z (by omega) (by decide)) (zM _) M M rfl rfl ?_
      refine J_aload_n Z.1 2 dL_law_1147 rfl rfl ?_
      refine J_aload_n Z.1 0 dL_law_1148 rfl rfl ?_
      refine J_iload_n Z.1 3 dL_law_1149 rfl rfl ?_
      refine J_iconst Z.1 (v := 1) (by decide) dL_law_1150 ?_
      refine J_iadd Z.1 dL_law_1151 ?_
      replace hf := ix_i hf
      obtain ⟨i368, hf⟩ := hf
      refine J_ialdK Z.1 dL_law_1152 t1 (by rw [wE Z hE]; exact i368) ?_
      rw [wE Z hE]
      refine J_aload_n Z.1 0 dL_law_1153 rfl rfl ?_
      refine J_iload_n Z.1 3 dL_law_1154 rfl rfl ?_
      refine J_iconst Z.1 (v := 2) (by decide) dL_law_1155 ?_
      refine J_iadd Z.1 dL_law_1156 ?_
      replace hf := ix_i hf
      obtain ⟨i369, hf⟩ := hf
      refine J_ialdK Z.1 dL_law_1157 t1 (by rw [wE Z hE]; exact i369) ?_
      rw [wE Z hE]
      replace hf := tg_i hf
      obtain ⟨t370, hf⟩ := hf
      replace hf := bd2_i hf
      obtain ⟨x373, h371, q372, hf⟩ := hf
      refine J_callV (ci := 11) (as := [.int (hI E.2.1 p0 (Int32.toNatClampNeg (l3 + 1))), .int (hI E.2.1 p0 (Int32.toNatClampNeg (l3 + 2)))]) (rest := [.int x367]) (sy := [.int x373, .int x367]) Z.1 dL_law_1158 cw_L_132 (pX13_sum_ok G (dk - 1) (by omega) q372) rfl rfl t370 (wG Z) rfl (by simp [cat_i, cat_l, cat_d, cat_rf]) (wF Z (by omega)) (wO Z (by omega) (by decide)) (zM _) M M rfl rfl ?_
      refine J_icmp_eq Z.1 1469 dL_law_1161 (by decide) (fun c374 => ?_) (fun c374 => ?_)
      · rw [if_pos c374] at hf
        exact pL_law_b1469_ok Z hK hE hk18 _ _ _ _ _ M hf
      · rw [if_neg c374] at hf
        refine J_iconst Z.1 (v := 0) (by decide) dL_law_1164 ?_
        exact absurd (congrArg Prod.fst (Option.some.inj hf)) (show ¬ ((0 : Int32) = 1) from by decide)
    rw [if_neg c361] at hf
    by_cases c375 : x4 = 26
    · rw [if_pos c375] at hf
      refine J_tabIn (off := 1133) Z.1 1166 dL_law_33 (by rw [c375]; decide) (by rw [c375]; decide) (by rw [c375]; decide) (by decide) ?_
      refine J_aload_n Z.1 1 dL_law_1166 rfl rfl ?_
      refine J_aload_n Z.1 0 dL_law_1167 rfl rfl ?_
      refine J_iload_n Z.1 3 dL_law_1168 rfl rfl ?_
      refine J_iconst Z.1 (v := 1) (by decide) dL_law_1169 ?_
      refine J_iadd Z.1 dL_law_1170 ?_
      replace hf := ix_i hf
      obtain ⟨i376, hf⟩ := hf
      refine J_ialdK Z.1 dL_law_1171 t1 (by rw [wE Z hE]; exact i376) ?_
      rw [wE Z hE]
      replace hf := tg_i hf
      obtain ⟨t377, hf⟩ := hf
      replace hf := bd2_i hf
      obtain ⟨x380, h378, q379, hf⟩ := hf
      refine J_callV (ci := 10) (as := [.int (hI E.2.1 p0 (Int32.toNatClampNeg (l3 + 1)))]) (rest := []) (sy := [.int x380]) Z.1 dL_law_1172 cw_L_133 (pX12_sums_ok G (dk - 1) (by omega) q379) rfl rfl t377 (wG Z) rfl (by decide) (wF Z (by omega)) (wO Z (by omega) (by decide)) (zM _) M M rfl rfl ?_
      refine J_aload_n Z.1 2 dL_law_1175 rfl rfl ?_
      refine J_aload_n Z.1 0 dL_law_1176 rfl rfl ?_
      refine J_iload_n Z.1 3 dL_law_1177 rfl rfl ?_
      refine J_iconst Z.1 (v := 1) (by decide) dL_law_1178 ?_
      refine J_iadd Z.1 dL_law_1179 ?_
      replace hf := ix_i hf
      obtain ⟨i381, hf⟩ := hf
      refine J_ialdK Z.1 dL_law_1180 t1 (by rw [wE Z hE]; exact i381) ?_
      rw [wE Z hE]
      replace hf := tg_i hf
      obtain ⟨t382, hf⟩ := hf
      replace hf := bd2_i hf
      obtain ⟨x385, h383, q384, hf⟩ := hf
      refine J_callV (ci := 11) (as := [.int (hI E.2.1 p0 (Int32.toNatClampNeg (l3 + 1)))]) (rest := [.int x380]) (sy := [.int x385, .int x380]) Z.1 dL_law_1181 cw_L_136 (pX13_sums_ok G (dk - 1) (by omega) q384) rfl rfl t382 (wG Z) rfl (by simp [cat_i, cat_l, cat_d, cat_rf]) (wF Z (by omega)) (wO Z (by omega) (by decide)) (zM _) M M rfl rfl ?_
      refine J_icmp_eq Z.1 1469 dL_law_1184 (by decide) (fun c386 => ?_) (fun c386 => ?_)
      · rw [if_pos c386] at hf
        exact pL_law_b1469_ok Z hK hE hk18 _ _ _ _ _ M hf
      · rw [if_neg c386] at hf
        refine J_iconst Z.1 (v := 0) (by decide) dL_law_1187 ?_
        exact absurd (congrArg Prod.fst (Option.some.inj hf)) (show ¬ ((0 : Int32) = 1) from by decide)
    rw [if_neg c375] at hf
    by_cases c387 : x4 = 27
    · rw [if_pos c387] at hf
      refine J_tabIn (off := 1156) Z.1 1189 dL_law_33 (by rw [c387]; decide) (by rw [c387]; decide) (by rw [c387]; decide) (by decide) ?_
      refine J_aload_n Z.1 1 dL_law_1189 rfl rfl ?_
      refine J_aload_n Z.1 0 dL_law_1190 rfl rfl ?_
      refine J_iload_n Z.1 3 dL_law_1191 rfl rfl ?_
      refine J_iconst Z.1 (v := 1) (by decide) dL_law_1192 ?_
      refine J_iadd Z.1 dL_law_1193 ?_
      replace hf := ix_i hf
      obtain ⟨i388, hf⟩ := hf
      refine J_ialdK Z.1 dL_law_1194 t1 (by rw [wE Z hE]; exact i388) ?_
      rw [wE Z hE]
      refine J_aload_n Z.1 0 dL_law_1195 rfl rfl ?_
      refine J_iload_n Z.1 3 dL_law_1196 rfl rfl ?_
      refine J_iconst Z.1 (v := 2) (by decide) dL_law_1197 ?_
      refine J_iadd Z.1 dL_law_1198 ?_
      replace hf := ix_i hf
      obtain ⟨i389, hf⟩ := hf
      refine J_ialdK Z.1 dL_law_1199 t1 (by rw [wE Z hE]; exact i389) ?_
      rw [wE Z hE]
      replace hf := tg_i hf
      obtain ⟨t390, hf⟩ := hf
      replace hf := bd2_i hf
      obtain ⟨x393, h391, q392, hf⟩ := hf
      refine J_callV (ci := 10) (as := [.int (hI E.2.1 p0 (Int32.toNatClampNeg (l3 + 1))), .int (hI E.2.1 p0 (Int32.toNatClampNeg (l3 + 2)))]) (rest := []) (sy := [.int x393]) Z.1 dL_law_1200 cw_L_137 (pX12_roundOf_ok G (dk - 1) (by omega) q392) rfl rfl t390 (wG Z) rfl (by decide) (wF Z (by omega)) (wO Z (by omega) (by decide)) (zM _) M M rfl rfl ?_
      refine J_aload_n Z.1 2 dL_law_1203 rfl rfl ?_
      refine J_aload_n Z.1 0 dL_law_1204 rfl rfl ?_
      refine J_iload_n Z.1 3 dL_law_1205 rfl rfl ?_
      refine J_iconst Z.1 (v := 1) (by decide) dL_law_1206 ?_
      refine J_iadd Z.1 dL_law_1207 ?_
      replace hf := ix_i hf
      obtain ⟨i394, hf⟩ := hf
      refine J_ialdK Z.1 dL_law_1208 t1 (by rw [wE Z hE]; exact i394) ?_
      rw [wE Z hE]
      refine J_aload_n Z.1 0 dL_law_1209 rfl rfl ?_
      refine J_iload_n Z.1 3 dL_law_1210 rfl rfl ?_
      refine J_iconst Z.1 (v := 2) (by decide) dL_law_1211 ?_
      refine J_iadd Z.1 dL_law_1212 ?_
      replace hf := ix_i hf
      obtain ⟨i395, hf⟩ := hf
      refine J_ialdK Z.1 dL_law_1213 t1 (by rw [wE Z hE]; exact i395) ?_
      rw [wE Z hE]
      replace hf := tg_i hf
      obtain ⟨t396, hf⟩ := hf
      replace hf := bd2_i hf
      obtain ⟨x399, h397, q398, hf⟩ := hf
      refine J_callV (ci := 11) (as := [.int (hI E.2.1 p0 (Int32.toNatClampNeg (l3 + 1))), .int (hI E.2.1 p0 (Int32.toNatClampNeg (l3 + 2)))]) (rest := [.int x393]) (sy := [.int x399, .int x393]) Z.1 dL_law_1214 cw_L_140 (pX13_roundOf_ok G (dk - 1) (by omega) q398) rfl rfl t396 (wG Z) rfl (by simp [cat_i, cat_l, cat_d, cat_rf]) (wF Z (by omega)) (wO Z (by omega) (by decide)) (zM _) M M rfl rfl ?_
      refine J_icmp_eq Z.1 1469 dL_law_1217 (by decide) (fun c400 => ?_) (fun c400 => ?_)
      · rw [if_pos c400] at hf
        exact pL_law_b1469_ok Z hK hE hk18 _ _ _ _ _ M hf
      · rw [if_neg c400] at hf
        refine J_iconst Z.1 (v := 0) (by decide) dL_law_1220 ?_
        exact absurd (congrArg Prod.fst (Option.some.inj hf)) (show ¬ ((0 : Int32) = 1) from by decide)
    rw [if_neg c387] at hf
    by_cases c401 : x4 = 28
    · rw [if_pos c401] at hf
      refine J_tabIn (off := 1189) Z.1 1222 dL_law_33 (by rw [c401]; decide) (by rw [c401]; decide) (by rw [c401]; decide) (by decide) ?_
      refine J_aload_n Z.1 1 dL_law_1222 rfl rfl ?_
      refine J_aload_n Z.1 0 dL_law_1223 rfl rfl ?_
      refine J_iload_n Z.1 3 dL_law_1224 rfl rfl ?_
      refine J_iconst Z.1 (v := 1) (by decide) dL_law_1225 ?_
      refine J_iadd Z.1 dL_law_1226 ?_
      replace hf := ix_i hf
      obtain ⟨i402, hf⟩ := hf
      refine J_ialdK Z.1 dL_law_1227 t1 (by rw [wE Z hE]; exact i402) ?_
      rw [wE Z hE]
      refine J_aload_n Z.1 0 dL_law_1228 rfl rfl ?_
      refine J_iload_n Z.1 3 dL_law_1229 rfl rfl ?_
      refine J_iconst Z.1 (v := 2) (by decide) dL_law_1230 ?_
      refine J_iadd Z.1 dL_law_1231 ?_
      replace hf := ix_i hf
      obtain ⟨i403, hf⟩ := hf
      refine J_ialdK Z.1 dL_law_1232 t1 (by rw [wE Z hE]; exact i403) ?_
      rw [wE Z hE]
      replace hf := tg_i hf
      obtain ⟨t404, hf⟩ := hf
      replace hf := bd2_i hf
      obtain ⟨x407, h405, q406, hf⟩ := hf
      refine J_callV (ci := 10) (as := [.int (hI E.2.1 p0 (Int32.toNatClampNeg (l3 + 1))), .int (hI E.2.1 p0 (Int32.toNatClampNeg (l3 + 2)))]) (rest := []) (sy := [.int x407]) Z.1 dL_law_1233 cw_L_141 (pX12_partnerOf_ok G (dk - 1) (by omega) q406) rfl rfl t404 (wG Z) rfl (by decide) (wF Z (by omega)) (wO Z (by omega) (by decide)) (zM _) M M rfl rfl ?_
      refine J_aload_n Z.1 2 dL_law_1236 rfl rfl ?_
      refine J_aload_n Z.1 0 dL_law_1237 rfl rfl ?_
      refine J_iload_n Z.1 3 dL_law_1238 rfl rfl ?_
      refine J_iconst Z.1 (v := 1) (by decide) dL_law_1239 ?_
      refine J_iadd Z.1 dL_law_1240 ?_
      replace hf := ix_i hf
      obtain ⟨i408, hf⟩ := hf
      refine J_ialdK Z.1 dL_law_1241 t1 (by rw [wE Z hE]; exact i408) ?_
      rw [wE Z hE]
      refine J_aload_n Z.1 0 dL_law_1242 rfl rfl ?_
      refine J_iload_n Z.1 3 dL_law_1243 rfl rfl ?_
      refine J_iconst Z.1 (v := 2) (by decide) dL_law_1244 ?_
      refine J_iadd Z.1 dL_law_1245 ?_
      replace hf := ix_i hf
      obtain ⟨i409, hf⟩ := hf
      refine J_ialdK Z.1 dL_law_1246 t1 (by rw [wE Z hE]; exact i409) ?_
      rw [wE Z hE]
      replace hf := tg_i hf
      obtain ⟨t410, hf⟩ := hf
      replace hf := bd2_i hf
      obtain ⟨x413, h411, q412, hf⟩ := hf
      refine J_callV (ci := 11) (as := [.int (hI E.2.1 p0 (Int32.toNatClampNeg (l3 + 1))), .int (hI E.2.1 p0 (Int32.toNatClampNeg (l3 + 2)))]) (rest := [.int x407]) (sy := [.int x413, .int x407]) Z.1 dL_law_1247 cw_L_144 (pX13_partnerOf_ok G (dk - 1) (by omega) q412) rfl rfl t410 (wG Z) rfl (by simp [cat_i, cat_l, cat_d, cat_rf]) (wF Z (by omega)) (wO Z (by omega) (by decide)) (zM _) M M rfl rfl ?_
      refine J_icmp_eq Z.1 1469 dL_law_1250 (by decide) (fun c414 => ?_) (fun c414 => ?_)
      · rw [if_pos c414] at hf
        exact pL_law_b1469_ok Z hK hE hk18 _ _ _ _ _ M hf
      · rw [if_neg c414] at hf
        refine J_iconst Z.1 (v := 0) (by decide) dL_law_1253 ?_
        exact absurd (congrArg Prod.fst (Option.some.inj hf)) (show ¬ ((0 : Int32) = 1) from by decide)
    rw [if_neg c401] at hf
    by_cases c415 : x4 = 29
    · rw [if_pos c415] at hf
      refine J_tabIn (off := 1222) Z.1 1255 dL_law_33 (by rw [c415]; decide) (by rw [c415]; decide) (by rw [c415]; decide) (by decide) ?_
      refine J_aload_n Z.1 1 dL_law_1255 rfl rfl ?_
      refine J_aload_n Z.1 0 dL_law_1256 rfl rfl ?_
      refine J_iload_n Z.1 3 dL_law_1257 rfl rfl ?_
      refine J_iconst Z.1 (v := 1) (by decide) dL_law_1258 ?_
      refine J_iadd Z.1 dL_law_1259 ?_
      replace hf := ix_i hf
      obtain ⟨i416, hf⟩ := hf
      refine J_ialdK Z.1 dL_law_1260 t1 (by rw [wE Z hE]; exact i416) ?_
      rw [wE Z hE]
      refine J_aload_n Z.1 0 dL_law_1261 rfl rfl ?_
      refine J_iload_n Z.1 3 dL_law_1262 rfl rfl ?_
      refine J_iconst Z.1 (v := 2) (by decide) dL_law_1263 ?_
      refine J_iadd Z.1 dL_law_1264 ?_
      replace hf := ix_i hf
      obtain ⟨i417, hf⟩ := hf
      refine J_ialdK Z.1 dL_law_1265 t1 (by rw [wE Z hE]; exact i417) ?_
      rw [wE Z hE]
      refine J_aload_n Z.1 0 dL_law_1266 rfl rfl ?_
      refine J_iload_n Z.1 3 dL_law_1267 rfl rfl ?_
      refine J_iconst Z.1 (v := 3) (by decide) dL_law_1268 ?_
      refine J_iadd Z.1 dL_law_1269 ?_
      replace hf := ix_i hf
      obtain ⟨i418, hf⟩ := hf
      refine J_ialdK Z.1 dL_law_1270 t1 (by rw [wE Z hE]; exact i418) ?_
      rw [wE Z hE]
      replace hf := tg_i hf
      obtain ⟨t419, hf⟩ := hf
      replace hf := bd2_i hf
      obtain ⟨x422, h420, q421, hf⟩ := hf
      refine J_callV (ci := 10) (as := [.int (hI E.2.1 p0 (Int32.toNatClampNeg (l3 + 1))), .int (hI E.2.1 p0 (Int32.toNatClampNeg (l3 + 2))), .int (hI E.2.1 p0 (Int32.toNatClampNeg (l3 + 3)))]) (rest := []) (sy := [.int x422]) Z.1 dL_law_1271 cw_L_145 (pX12_stalls_ok G (dk - 1) (by omega) q421) rfl rfl t419 (wG Z) rfl (by decide) (wF Z (by omega)) (wO Z (by omega) (by decide)) (zM _) M M rfl rfl ?_
      refine J_aload_n Z.1 2 dL_law_1274 rfl rfl ?_
      refine J_aload_n Z.1 0 dL_law_1275 rfl rfl ?_
      refine J_iload_n Z.1 3 dL_law_1276 rfl rfl ?_
      refine J_iconst Z.1 (v := 1) (by decide) dL_law_1277 ?_
      refine J_iadd Z.1 dL_law_1278 ?_
      replace hf := ix_i hf
      obtain ⟨i423, hf⟩ := hf
      refine J_ialdK Z.1 dL_law_1279 t1 (by rw [wE Z hE]; exact i423) ?_
      rw [wE Z hE]
      refine J_aload_n Z.1 0 dL_law_1280 rfl rfl ?_
      refine J_iload_n Z.1 3 dL_law_1281 rfl rfl ?_
      refine J_iconst Z.1 (v := 2) (by decide) dL_law_1282 ?_
      refine J_iadd Z.1 dL_law_1283 ?_
      replace hf := ix_i hf
      obtain ⟨i424, hf⟩ := hf
      refine J_ialdK Z.1 dL_law_1284 t1 (by rw [wE Z hE]; exact i424) ?_
      rw [wE Z hE]
      refine J_aload_n Z.1 0 dL_law_1285 rfl rfl ?_
      refine J_iload_n Z.1 3 dL_law_1286 rfl rfl ?_
      refine J_iconst Z.1 (v := 3) (by decide) dL_law_1287 ?_
      refine J_iadd Z.1 dL_law_1288 ?_
      replace hf := ix_i hf
      obtain ⟨i425, hf⟩ := hf
      refine J_ialdK Z.1 dL_law_1289 t1 (by rw [wE Z hE]; exact i425) ?_
      rw [wE Z hE]
      replace hf := tg_i hf
      obtain ⟨t426, hf⟩ := hf
      replace hf := bd2_i hf
      obtain ⟨x429, h427, q428, hf⟩ := hf
      refine J_callV (ci := 11) (as := [.int (hI E.2.1 p0 (Int32.toNatClampNeg (l3 + 1))), .int (hI E.2.1 p0 (Int32.toNatClampNeg (l3 + 2))), .int (hI E.2.1 p0 (Int32.toNatClampNeg (l3 + 3)))]) (rest := [.int x422]) (sy := [.int x429, .int x422]) Z.1 dL_law_1290 cw_L_148 (pX13_stalls_ok G (dk - 1) (by omega) q428) rfl rfl t426 (wG Z) rfl (by simp [cat_i, cat_l, cat_d, cat_rf]) (wF Z (by omega)) (wO Z (by omega) (by decide)) (zM _) M M rfl rfl ?_
      refine J_icmp_eq Z.1 1469 dL_law_1293 (by decide) (fun c430 => ?_) (fun c430 => ?_)
      · rw [if_pos c430] at hf
        exact pL_law_b1469_ok Z hK hE hk18 _ _ _ _ _ M hf
      · rw [if_neg c430] at hf
        refine J_iconst Z.1 (v := 0) (by decide) dL_law_1296 ?_
        exact absurd (congrArg Prod.fst (Option.some.inj hf)) (show ¬ ((0 : Int32) = 1) from by decide)
    rw [if_neg c415] at hf
    by_cases c431 : x4 = 30
    · rw [if_pos c431] at hf
      refine J_tabIn (off := 1265) Z.1 1298 dL_law_33 (by rw [c431]; decide) (by rw [c431]; decide) (by rw [c431]; decide) (by decide) ?_
      refine J_aload_n Z.1 1 dL_law_1298 rfl rfl ?_
      refine J_aload_n Z.1 0 dL_law_1299 rfl rfl ?_
      refine J_iload_n Z.1 3 dL_law_1300 rfl rfl ?_
      refine J_iconst Z.1 (v := 1) (by decide) dL_law_1301 ?_
      refine J_iadd Z.1 dL_law_1302 ?_
      replace hf := ix_i hf
      obtain ⟨i432, hf⟩ := hf
      refine J_ialdK Z.1 dL_law_1303 t1 (by rw [wE Z hE]; exact i432) ?_
      rw [wE Z hE]
      refine J_aload_n Z.1 0 dL_law_1304 rfl rfl ?_
      refine J_iload_n Z.1 3 dL_law_1305 rfl rfl ?_
      refine J_iconst Z.1 (v := 2) (by decide) dL_law_1306 ?_
      refine J_iadd Z.1 dL_law_1307 ?_
      replace hf := ix_i hf
      obtain ⟨i433, hf⟩ := hf
      refine J_ialdK Z.1 dL_law_1308 t1 (by rw [wE Z hE]; exact i433) ?_
      rw [wE Z hE]
      refine J_aload_n Z.1 0 dL_law_1309 rfl rfl ?_
      refine J_iload_n Z.1 3 dL_law_1310 rfl rfl ?_
      refine J_iconst Z.1 (v := 3) (by decide) dL_law_1311 ?_
      refine J_iadd Z.1 dL_law_1312 ?_
      replace hf := ix_i hf
      obtain ⟨i434, hf⟩ := hf
      refine J_ialdK Z.1 dL_law_1313 t1 (by rw [wE Z hE]; exact i434) ?_
      rw [wE Z hE]
      replace hf := tg_i hf
      obtain ⟨t435, hf⟩ := hf
      replace hf := bd2_i hf
      obtain ⟨x438, h436, q437, hf⟩ := hf
      refine J_callV (ci := 10) (as := [.int (hI E.2.1 p0 (Int32.toNatClampNeg (l3 + 1))), .int (hI E.2.1 p0 (Int32.toNatClampNeg (l3 + 2))), .int (hI E.2.1 p0 (Int32.toNatClampNeg (l3 + 3)))]) (rest := []) (sy := [.int x438]) Z.1 dL_law_1314 cw_L_149 (pX12_banksFor_ok G (dk - 1) (by omega) q437) rfl rfl t435 (wG Z) rfl (by decide) (wF Z (by omega)) (wO Z (by omega) (by decide)) (zM _) M M rfl rfl ?_
      refine J_aload_n Z.1 2 dL_law_1317 rfl rfl ?_
      refine J_aload_n Z.1 0 dL_law_1318 rfl rfl ?_
      refine J_iload_n Z.1 3 dL_law_1319 rfl rfl ?_
      refine J_iconst Z.1 (v := 1) (by decide) dL_law_1320 ?_
      refine J_iadd Z.1 dL_law_1321 ?_
      replace hf := ix_i hf
      obtain ⟨i439, hf⟩ := hf
      refine J_ialdK Z.1 dL_law_1322 t1 (by rw [wE Z hE]; exact i439) ?_
      rw [wE Z hE]
      refine J_aload_n Z.1 0 dL_law_1323 rfl rfl ?_
      refine J_iload_n Z.1 3 dL_law_1324 rfl rfl ?_
      refine J_iconst Z.1 (v := 2) (by decide) dL_law_1325 ?_
      refine J_iadd Z.1 dL_law_1326 ?_
      replace hf := ix_i hf
      obtain ⟨i440, hf⟩ := hf
      refine J_ialdK Z.1 dL_law_1327 t1 (by rw [wE Z hE]; exact i440) ?_
      rw [wE Z hE]
      refine J_aload_n Z.1 0 dL_law_1328 rfl rfl ?_
      refine J_iload_n Z.1 3 dL_law_1329 rfl rfl ?_
      refine J_iconst Z.1 (v := 3) (by decide) dL_law_1330 ?_
      refine J_iadd Z.1 dL_law_1331 ?_
      replace hf := ix_i hf
      obtain ⟨i441, hf⟩ := hf
      refine J_ialdK Z.1 dL_law_1332 t1 (by rw [wE Z hE]; exact i441) ?_
      rw [wE Z hE]
      replace hf := tg_i hf
      obtain ⟨t442, hf⟩ := hf
      replace hf := bd2_i hf
      obtain ⟨x445, h443, q444, hf⟩ := hf
      refine J_callV (ci := 11) (as := [.int (hI E.2.1 p0 (Int32.toNatClampNeg (l3 + 1))), .int (hI E.2.1 p0 (Int32.toNatClampNeg (l3 + 2))), .int (hI E.2.1 p0 (Int32.toNatClampNeg (l3 + 3)))]) (rest := [.int x438]) (sy := [.int x445, .int x438]) Z.1 dL_law_1333 cw_L_152 (pX13_banksFor_ok G (dk - 1) (by omega) q444) rfl rfl t442 (wG Z) rfl (by simp [cat_i, cat_l, cat_d, cat_rf]) (wF Z (by omega)) (wO Z (by omega) (by decide)) (zM _) M M rfl rfl ?_
      refine J_icmp_eq Z.1 1469 dL_law_1336 (by decide) (fun c446 => ?_) (fun c446 => ?_)
      · rw [if_pos c446] at hf
        exact pL_law_b1469_ok Z hK hE hk18 _ _ _ _ _ M hf
      · rw [if_neg c446] at hf
        refine J_iconst Z.1 (v := 0) (by decide) dL_law_1339 ?_
        exact absurd (congrArg Prod.fst (Option.some.inj hf)) (show ¬ ((0 : Int32) = 1) from by decide)
    rw [if_neg c431] at hf
    by_cases c447 : x4 = 31
    · rw [if_pos c447] at hf
      refine J_tabIn (off := 1308) Z.1 1341 dL_law_33 (by rw [c447]; decide) (by rw [c447]; decide) (by rw [c447]; decide) (by decide) ?_
      refine J_aload_n Z.1 1 dL_law_1341 rfl rfl ?_
      refine J_aload_n Z.1 0 dL_law_1342 rfl rfl ?_
      refine J_iload_n Z.1 3 dL_law_1343 rfl rfl ?_
      refine J_iconst Z.1 (v := 1) (by decide) dL_law_1344 ?_
      refine J_iadd Z.1 dL_law_1345 ?_
      replace hf := ix_i hf
      obtain ⟨i448, hf⟩ := hf
      refine J_ialdK Z.1 dL_law_1346 t1 (by rw [wE Z hE]; exact i448) ?_
      rw [wE Z hE]
      refine J_aload_n Z.1 0 dL_law_1347 rfl rfl ?_
      refine J_iload_n Z.1 3 dL_law_1348 rfl rfl ?_
      refine J_iconst Z.1 (v := 2) (by decide) dL_law_1349 ?_
      refine J_iadd Z.1 dL_law_1350 ?_
      replace hf := ix_i hf
      obtain ⟨i449, hf⟩ := hf
      refine J_ialdK Z.1 dL_law_1351 t1 (by rw [wE Z hE]; exact i449) ?_
      rw [wE Z hE]
      replace hf := tg_i hf
      obtain ⟨t450, hf⟩ := hf
      replace hf := bd2_i hf
      obtain ⟨x453, h451, q452, hf⟩ := hf
      refine J_callV (ci := 10) (as := [.int (hI E.2.1 p0 (Int32.toNatClampNeg (l3 + 1))), .int (hI E.2.1 p0 (Int32.toNatClampNeg (l3 + 2)))]) (rest := []) (sy := [.int x453]) Z.1 dL_law_1352 cw_L_153 (pX12_worst_ok G (dk - 1) (by omega) q452) rfl rfl t450 (wG Z) rfl (by decide) (wF Z (by omega)) (wO Z (by omega) (by decide)) (zM _) M M rfl rfl ?_
      refine J_aload_n Z.1 2 dL_law_1355 rfl rfl ?_
      refine J_aload_n Z.1 0 dL_law_1356 rfl rfl ?_
      refine J_iload_n Z.1 3 dL_law_1357 rfl rfl ?_
      refine J_iconst Z.1 (v := 1) (by decide) dL_law_1358 ?_
      refine J_iadd Z.1 dL_law_1359 ?_
      replace hf := ix_i hf
      obtain ⟨i454, hf⟩ := hf
      refine J_ialdK Z.1 dL_law_1360 t1 (by rw [wE Z hE]; exact i454) ?_
      rw [wE Z hE]
      refine J_aload_n Z.1 0 dL_law_1361 rfl rfl ?_
      refine J_iload_n Z.1 3 dL_law_1362 rfl rfl ?_
      refine J_iconst Z.1 (v := 2) (by decide) dL_law_1363 ?_
      refine J_iadd Z.1 dL_law_1364 ?_
      replace hf := ix_i hf
      obtain ⟨i455, hf⟩ := hf
      refine J_ialdK Z.1 dL_law_1365 t1 (by rw [wE Z hE]; exact i455) ?_
      rw [wE Z hE]
      replace hf := tg_i hf
      obtain ⟨t456, hf⟩ := hf
      replace hf := bd2_i hf
      obtain ⟨x459, h457, q458, hf⟩ := hf
      refine J_callV (ci := 11) (as := [.int (hI E.2.1 p0 (Int32.toNatClampNeg (l3 + 1))), .int (hI E.2.1 p0 (Int32.toNatClampNeg (l3 + 2)))]) (rest := [.int x453]) (sy := [.int x459, .int x453]) Z.1 dL_law_1366 cw_L_156 (pX13_worst_ok G (dk - 1) (by omega) q458) rfl rfl t456 (wG Z) rfl (by simp [cat_i, cat_l, cat_d, cat_rf]) (wF Z (by omega)) (wO Z (by omega) (by decide)) (zM _) M M rfl rfl ?_
      refine J_icmp_eq Z.1 1469 dL_law_1369 (by decide) (fun c460 => ?_) (fun c460 => ?_)
      · rw [if_pos c460] at hf
        exact pL_law_b1469_ok Z hK hE hk18 _ _ _ _ _ M hf
      · rw [if_neg c460] at hf
        refine J_iconst Z.1 (v := 0) (by decide) dL_law_1372 ?_
        exact absurd (congrArg Prod.fst (Option.some.inj hf)) (show ¬ ((0 : Int32) = 1) from by decide)
    rw [if_neg c447] at hf
    by_cases c461 : x4 = 32
    · rw [if_pos c461] at hf
      refine J_tabIn (off := 1341) Z.1 1374 dL_law_33 (by rw [c461]; decide) (by rw [c461]; decide) (by rw [c461]; decide) (by decide) ?_
      refine J_aload_n Z.1 1 dL_law_1374 rfl rfl ?_
      refine J_aload_n Z.1 0 dL_law_1375 rfl rfl ?_
      refine J_iload_n Z.1 3 dL_law_1376 rfl rfl ?_
      refine J_iconst Z.1 (v := 1) (by decide) dL_law_1377 ?_
      refine J_iadd Z.1 dL_law_1378 ?_
      replace hf := ix_i hf
      obtain ⟨i462, hf⟩ := hf
      refine J_ialdK Z.1 dL_law_1379 t1 (by rw [wE Z hE]; exact i462) ?_
      rw [wE Z hE]
      refine J_aload_n Z.1 0 dL_law_1380 rfl rfl ?_
      refine J_iload_n Z.1 3 dL_law_1381 rfl rfl ?_
      refine J_iconst Z.1 (v := 2) (by decide) dL_law_1382 ?_
      refine J_iadd Z.1 dL_law_1383 ?_
      replace hf := ix_i hf
      obtain ⟨i463, hf⟩ := hf
      refine J_ialdK Z.1 dL_law_1384 t1 (by rw [wE Z hE]; exact i463) ?_
      rw [wE Z hE]
      replace hf := tg_i hf
      obtain ⟨t464, hf⟩ := hf
      replace hf := bd2_i hf
      obtain ⟨x467, h465, q466, hf⟩ := hf
      refine J_callV (ci := 10) (as := [.int (hI E.2.1 p0 (Int32.toNatClampNeg (l3 + 1))), .int (hI E.2.1 p0 (Int32.toNatClampNeg (l3 + 2)))]) (rest := []) (sy := [.int x467]) Z.1 dL_law_1385 cw_L_157 (pX12_depends_ok G (dk - 1) (by omega) hE q466) rfl rfl t464 (wG Z) rfl (by decide) (wF Z (by omega)) (wO Z (by omega) (by decide)) (zM _) M M rfl rfl ?_
      refine J_aload_n Z.1 2 dL_law_1388 rfl rfl ?_
      refine J_aload_n Z.1 0 dL_law_1389 rfl rfl ?_
      refine J_iload_n Z.1 3 dL_law_1390 rfl rfl ?_
      refine J_iconst Z.1 (v := 1) (by decide) dL_law_1391 ?_
      refine J_iadd Z.1 dL_law_1392 ?_
      replace hf := ix_i hf
      obtain ⟨i468, hf⟩ := hf
      refine J_ialdK Z.1 dL_law_1393 t1 (by rw [wE Z hE]; exact i468) ?_
      rw [wE Z hE]
      refine J_aload_n Z.1 0 dL_law_1394 rfl rfl ?_
      refine J_iload_n Z.1 3 dL_law_1395 rfl rfl ?_
      refine J_iconst Z.1 (v := 2) (by decide) dL_law_1396 ?_
      refine J_iadd Z.1 dL_law_1397 ?_
      replace hf := ix_i hf
      obtain ⟨i469, hf⟩ := hf
      refine J_ialdK Z.1 dL_law_1398 t1 (by rw [wE Z hE]; exact i469) ?_
      rw [wE Z hE]
      replace hf := tg_i hf
      obtain ⟨t470, hf⟩ := hf
      replace hf := bd2_i hf
      obtain ⟨x473, h471, q472, hf⟩ := hf
      refine J_callV (ci := 11) (as := [.int (hI E.2.1 p0 (Int32.toNatClampNeg (l3 + 1))), .int (hI E.2.1 p0 (Int32.toNatClampNeg (l3 + 2)))]) (rest := [.int x467]) (sy := [.int x473, .int x467]) Z.1 dL_law_1399 cw_L_160 (pX13_depends_ok G (dk - 1) (by omega) q472) rfl rfl t470 (wG Z) rfl (by simp [cat_i, cat_l, cat_d, cat_rf]) (wF Z (by omega)) (wO Z (by omega) (by decide)) (zM _) M M rfl rfl ?_
      refine J_icmp_eq Z.1 1469 dL_law_1402 (by decide) (fun c474 => ?_) (fun c474 => ?_)
      · rw [if_pos c474] at hf
        exact pL_law_b1469_ok Z hK hE hk18 _ _ _ _ _ M hf
      · rw [if_neg c474] at hf
        refine J_iconst Z.1 (v := 0) (by decide) dL_law_1405 ?_
        exact absurd (congrArg Prod.fst (Option.some.inj hf)) (show ¬ ((0 : Int32) = 1) from by decide)
    rw [if_neg c461] at hf
    by_cases c475 : x4 = 33
    · rw [if_pos c475] at hf
      refine J_tabIn (off := 1374) Z.1 1407 dL_law_33 (by rw [c475]; decide) (by rw [c475]; decide) (by rw [c475]; decide) (by decide) ?_
      refine J_aload_n Z.1 1 dL_law_1407 rfl rfl ?_
      refine J_aload_n Z.1 0 dL_law_1408 rfl rfl ?_
      refine J_iload_n Z.1 3 dL_law_1409 rfl rfl ?_
      refine J_iconst Z.1 (v := 1) (by decide) dL_law_1410 ?_
      refine J_iadd Z.1 dL_law_1411 ?_
      replace hf := ix_i hf
      obtain ⟨i476, hf⟩ := hf
      refine J_ialdK Z.1 dL_law_1412 t1 (by rw [wE Z hE]; exact i476) ?_
      rw [wE Z hE]
      replace hf := tg_i hf
      obtain ⟨t477, hf⟩ := hf
      replace hf := bd2_i hf
      obtain ⟨x480, h478, q479, hf⟩ := hf
      refine J_callV (ci := 10) (as := [.int (hI E.2.1 p0 (Int32.toNatClampNeg (l3 + 1)))]) (rest := []) (sy := [.int x480]) Z.1 dL_law_1413 cw_L_161 (pX12_swapGain_ok G (dk - 1) (by omega) hE q479) rfl rfl t477 (wG Z) rfl (by decide) (wF Z (by omega)) (wO Z (by omega) (by decide)) (zM _) M M rfl rfl ?_
      refine J_aload_n Z.1 2 dL_law_1416 rfl rfl ?_
      refine J_aload_n Z.1 0 dL_law_1417 rfl rfl ?_
      refine J_iload_n Z.1 3 dL_law_1418 rfl rfl ?_
      refine J_iconst Z.1 (v := 1) (by decide) dL_law_1419 ?_
      refine J_iadd Z.1 dL_law_1420 ?_
      replace hf := ix_i hf
      obtain ⟨i481, hf⟩ := hf
      refine J_ialdK Z.1 dL_law_1421 t1 (by rw [wE Z hE]; exact i481) ?_
      rw [wE Z hE]
      replace hf := tg_i hf
      obtain ⟨t482, hf⟩ := hf
      replace hf := bd2_i hf
      obtain ⟨x485, h483, q484, hf⟩ := hf
      refine J_callV (ci := 11) (as := [.int (hI E.2.1 p0 (Int32.toNatClampNeg (l3 + 1)))]) (rest := [.int x480]) (sy := [.int x485, .int x480]) Z.1 dL_law_1422 cw_L_164 (pX13_swapGain_ok G (dk - 1) (by omega) q484) rfl rfl t482 (wG Z) rfl (by simp [cat_i, cat_l, cat_d, cat_rf]) (wF Z (by omega)) (wO Z (by omega) (by decide)) (zM _) M M rfl rfl ?_
      refine J_icmp_eq Z.1 1469 dL_law_1425 (by decide) (fun c486 => ?_) (fun c486 => ?_)
      · rw [if_pos c486] at hf
        exact pL_law_b1469_ok Z hK hE hk18 _ _ _ _ _ M hf
      · rw [if_neg c486] at hf
        refine J_iconst Z.1 (v := 0) (by decide) dL_law_1428 ?_
        exact absurd (congrArg Prod.fst (Option.some.inj hf)) (show ¬ ((0 : Int32) = 1) from by decide)
    rw [if_neg c475] at hf
    by_cases c487 : x4 = 34
    · rw [if_pos c487] at hf
      refine J_tabIn (off := 1397) Z.1 1430 dL_law_33 (by rw [c487]; decide) (by rw [c487]; decide) (by rw [c487]; decide) (by decide) ?_
      refine J_aload_n Z.1 1 dL_law_1430 rfl rfl ?_
      replace hf := tg_i hf
      obtain ⟨t488, hf⟩ := hf
      replace hf := bd2_i hf
      obtain ⟨x491, h489, q490, hf⟩ := hf
      refine J_callV (ci := 10) (as := []) (rest := []) (sy := [.int x491]) Z.1 dL_law_1431 cw_L_165 (pX12_bestSwap_ok G (dk - 1) (by omega) hE q490) rfl rfl t488 (wG Z) rfl (by decide) (wF Z (by omega)) (wO Z (by omega) (by decide)) (zM _) M M rfl rfl ?_
      refine J_aload_n Z.1 2 dL_law_1434 rfl rfl ?_
      replace hf := tg_i hf
      obtain ⟨t492, hf⟩ := hf
      replace hf := bd2_i hf
      obtain ⟨x495, h493, q494, hf⟩ := hf
      refine J_callV (ci := 11) (as := []) (rest := [.int x491]) (sy := [.int x495, .int x491]) Z.1 dL_law_1435 cw_L_168 (pX13_bestSwap_ok G (dk - 1) (by omega) q494) rfl rfl t492 (wG Z) rfl (by simp [cat_i, cat_l, cat_d, cat_rf]) (wF Z (by omega)) (wO Z (by omega) (by decide)) (zM _) M M rfl rfl ?_
      refine J_icmp_eq Z.1 1469 dL_law_1438 (by decide) (fun c496 => ?_) (fun c496 => ?_)
      · rw [if_pos c496] at hf
        exact pL_law_b1469_ok Z hK hE hk18 _ _ _ _ _ M hf
      · rw [if_neg c496] at hf
        refine J_iconst Z.1 (v := 0) (by decide) dL_law_1441 ?_
        exact absurd (congrArg Prod.fst (Option.some.inj hf)) (show ¬ ((0 : Int32) = 1) from by decide)
    rw [if_neg c487] at hf
    by_cases c497 : x4 = 35
    · rw [if_pos c497] at hf
      refine J_tabIn (off := 1410) Z.1 1443 dL_law_33 (by rw [c497]; decide) (by rw [c497]; decide) (by rw [c497]; decide) (by decide) ?_
      refine J_aload_n Z.1 1 dL_law_1443 rfl rfl ?_
      replace hf := tg_i hf
      obtain ⟨t498, hf⟩ := hf
      replace hf := bd2_i hf
      obtain ⟨x501, h499, q500, hf⟩ := hf
      refine J_callV (ci := 10) (as := []) (rest := []) (sy := [.int x501]) Z.1 dL_law_1444 cw_L_169 (pX12_mark_ok G (dk - 1) (by omega) q500) rfl rfl t498 (wG Z) rfl (by decide) (wF Z (by omega)) (wO Z (by omega) (by decide)) (zM _) M M rfl rfl ?_
      refine J_aload_n Z.1 2 dL_law_1447 rfl rfl ?_
      replace hf := tg_i hf
      obtain ⟨t502, hf⟩ := hf
      replace hf := bd2_i hf
      obtain ⟨x505, h503, q504, hf⟩ := hf
      refine J_callV (ci := 11) (as := []) (rest := [.int x501]) (sy := [.int x505, .int x501]) Z.1 dL_law_1448 cw_L_172 (pX13_mark_ok G (dk - 1) (by omega) q504) rfl rfl t502 (wG Z) rfl (by simp [cat_i, cat_l, cat_d, cat_rf]) (wF Z (by omega)) (wO Z (by omega) (by decide)) (zM _) M M rfl rfl ?_
      refine J_icmp_eq Z.1 1469 dL_law_1451 (by decide) (fun c506 => ?_) (fun c506 => ?_)
      · rw [if_pos c506] at hf
        exact pL_law_b1469_ok Z hK hE hk18 _ _ _ _ _ M hf
      · rw [if_neg c506] at hf
        refine J_iconst Z.1 (v := 0) (by decide) dL_law_1454 ?_
        exact absurd (congrArg Prod.fst (Option.some.inj hf)) (show ¬ ((0 : Int32) = 1) from by decide)
    rw [if_neg c497] at hf
    by_cases c507 : x4 = 36
    · rw [if_pos c507] at hf
      refine J_tabIn (off := 1423) Z.1 1456 dL_law_33 (by rw [c507]; decide) (by rw [c507]; decide) (by rw [c507]; decide) (by decide) ?_
      refine J_aload_n Z.1 1 dL_law_1456 rfl rfl ?_
      replace hf := tg_i hf
      obtain ⟨t508, hf⟩ := hf
      replace hf := bd2_i hf
      obtain ⟨x511, h509, q510, hf⟩ := hf
      refine J_callV (ci := 10) (as := []) (rest := []) (sy := [.int x511]) Z.1 dL_law_1457 cw_L_173 (pX12_back_ok G (dk - 1) (by omega) q510) rfl rfl t508 (wG Z) rfl (by decide) (wF Z (by omega)) (wO Z (by omega) (by decide)) (zM _) M M rfl rfl ?_
      refine J_aload_n Z.1 2 dL_law_1460 rfl rfl ?_
      replace hf := tg_i hf
      obtain ⟨t512, hf⟩ := hf
      replace hf := bd2_i hf
      obtain ⟨x515, h513, q514, hf⟩ := hf
      refine J_callV (ci := 11) (as := []) (rest := [.int x511]) (sy := [.int x515, .int x511]) Z.1 dL_law_1461 cw_L_176 (pX13_back_ok G (dk - 1) (by omega) q514) rfl rfl t512 (wG Z) rfl (by simp [cat_i, cat_l, cat_d, cat_rf]) (wF Z (by omega)) (wO Z (by omega) (by decide)) (zM _) M M rfl rfl ?_
      refine J_icmp_eq Z.1 1469 dL_law_1464 (by decide) (fun c516 => ?_) (fun c516 => ?_)
      · rw [if_pos c516] at hf
        exact pL_law_b1469_ok Z hK hE hk18 _ _ _ _ _ M hf
      · rw [if_neg c516] at hf
        refine J_iconst Z.1 (v := 0) (by decide) dL_law_1467 ?_
        exact absurd (congrArg Prod.fst (Option.some.inj hf)) (show ¬ ((0 : Int32) = 1) from by decide)
    rw [if_neg c507] at hf
    have hout : x4.toInt < 0 ∨ 36 < x4.toInt := by
      have c5q := lv_neT c5 (a := 0) (by decide)
      have c14q := lv_neT c14 (a := 1) (by decide)
      have c23q := lv_neT c23 (a := 2) (by decide)
      have c32q := lv_neT c32 (a := 3) (by decide)
      have c48q := lv_neT c48 (a := 4) (by decide)
      have c66q := lv_neT c66 (a := 5) (by decide)
      have c80q := lv_neT c80 (a := 6) (by decide)
      have c100q := lv_neT c100 (a := 7) (by decide)
      have c120q := lv_neT c120 (a := 8) (by decide)
      have c136q := lv_neT c136 (a := 9) (by decide)
      have c147q := lv_neT c147 (a := 10) (by decide)
      have c159q := lv_neT c159 (a := 11) (by decide)
      have c173q := lv_neT c173 (a := 12) (by decide)
      have c185q := lv_neT c185 (a := 13) (by decide)
      have c197q := lv_neT c197 (a := 14) (by decide)
      have c217q := lv_neT c217 (a := 15) (by decide)
      have c235q := lv_neT c235 (a := 16) (by decide)
      have c253q := lv_neT c253 (a := 17) (by decide)
      have c267q := lv_neT c267 (a := 18) (by decide)
      have c283q := lv_neT c283 (a := 19) (by decide)
      have c299q := lv_neT c299 (a := 20) (by decide)
      have c311q := lv_neT c311 (a := 21) (by decide)
      have c325q := lv_neT c325 (a := 22) (by decide)
      have c335q := lv_neT c335 (a := 23) (by decide)
      have c347q := lv_neT c347 (a := 24) (by decide)
      have c361q := lv_neT c361 (a := 25) (by decide)
      have c375q := lv_neT c375 (a := 26) (by decide)
      have c387q := lv_neT c387 (a := 27) (by decide)
      have c401q := lv_neT c401 (a := 28) (by decide)
      have c415q := lv_neT c415 (a := 29) (by decide)
      have c431q := lv_neT c431 (a := 30) (by decide)
      have c447q := lv_neT c447 (a := 31) (by decide)
      have c461q := lv_neT c461 (a := 32) (by decide)
      have c475q := lv_neT c475 (a := 33) (by decide)
      have c487q := lv_neT c487 (a := 34) (by decide)
      have c497q := lv_neT c497 (a := 35) (by decide)
      have c507q := lv_neT c507 (a := 36) (by decide)
      omega
    refine J_tabOut Z.1 1469 dL_law_33 hout (by decide) ?_
    exact pL_law_b1469_ok Z hK hE hk18 _ _ _ _ _ M hf
def pL_law_l18 (E : EC) (p0 : Nat) : Nat → Nat → Nat → Int32 → MT → CT → Option ((Int32) × MT × CT)
  | 0, _, _, _, _, _ => none
  | n + 1, l1, l2, l3, g, h => pL_law_b18 E p0 (pL_law_l18 E p0 n) l1 l2 l3 g h
theorem pL_law_l18_ok {X : Cx} {G : Gx} {dk : Nat} {b : Nat} {g0 : MT} {h0 : CT} {p0 : Nat} (Z : Zw X G dk b g0 h0) (hK : 131 ≤ dk) {E : EC} (hE : G.2.2.2 = E) : ∀ (n : Nat) (l1 : Nat) (l2 : Nat) (l3 : Int32) (g : MT) (h : CT), RM X g → pL_law_l18 E p0 n l1 l2 l3 g h = some (1, g0, h0) → J X g h 18 [(0, va_rf (some p0)), (1, va_rf (some l1)), (2, va_rf (some l2)), (3, .int l3)] [] := by
  intro n
  induction n with
  | zero => intro l1 l2 l3 g h M hf; cases hf
  | succ n ih => intro l1 l2 l3 g h M hf; exact pL_law_b18_ok Z hK hE ih l1 l2 l3 g h M hf
def pL_law (E : EC) (g : MT) (h : CT) (p0 : Nat) : Option ((Int32) × MT × CT) := gq (fun z => z.2.1) g (gq (fun z => z.2.1) (gA g 11 20) (lt (gA g 11 20) fun g1 => (lt (hZ h (gN g)) fun h2 => (lt (gN g) fun a3 => (tg g1 a3 11 (bd2 (pX12_init E g1 h2 a3) fun g7 h8 => (gq (fun z => z.2.1) g7 (gq (fun z => z.2.1) (gA g7 12 52) (lt (gA g7 12 52) fun g12 => (lt (hZ h8 (gN g7)) fun h13 => (lt (gN g7) fun a14 => (tg g12 a14 12 (bd2 (pX13_init g12 h13 a14) fun g18 h19 => (gq (fun z => z.2.1) g18 (pL_law_l18 E p0  FUEL a3 a14 0 g18 h19)))))))))))))))
set_option maxRecDepth 10000 in
set_option maxHeartbeats 4000000 in
theorem pL_law_ok {X : Cx} {G : Gx} {dk : Nat} {b : Nat} {g0 : MT} {h0 : CT} {p0 : Nat} (Z : Zw X G dk b g0 h0) (hK : 131 ≤ dk) {E : EC} (hE : G.2.2.2 = E) {g : MT} {h : CT} (M : RM X g) (hf : pL_law E g h p0 = some (1, g0, h0)) : J X g h 0 [(0, va_rf (some p0))] [] := by
  unfold pL_law at hf
  replace hf := gq_i hf
  obtain ⟨hm, hf⟩ := hf
  replace hf := gq_i hf
  obtain ⟨n4, hf⟩ := hf
  have M5 := wmA Z M n4
  refine J_new (ci := 10) (r := (RX12, TX12, 20)) Z.1 dL_law_0 rfl q_162 q_163 q_137 M M5 ?_
  refine J_tg (fun g1 eg1 => ?_)
  rw [← eg1] at M5
  replace hf := lt_i hf g1 eg1
  refine J_th (fun h2 eh2 => ?_)
  replace hf := lt_i hf h2 eh2
  refine J_ta (fun a3 ea3 => ?_)
  replace hf := lt_i hf a3 ea3
  refine J_dup Z.1 dL_law_3 rfl ?_
  replace hf := tg_i hf
  obtain ⟨t6, hf⟩ := hf
  replace hf := bd2_i hf
  obtain ⟨g7, h8, q9, hf⟩ := hf
  replace hf := gq_i hf
  obtain ⟨n10, hf⟩ := hf
  have M11o := pX12_init_mono q9
  have M11 := wmC Z M5 M11o n10
  refine J_callI (as := []) (rest := [va_rf (some a3)]) (sy := [va_rf (some a3)]) Z.1 dL_law_4 cw_L_9 (pX12_init_ok G (dk - 1) (by omega) hE q9) (wG Z) rfl (by simp [cat_i, cat_l, cat_d, cat_rf]) (wF Z (by omega)) (wO Z (by omega) (by decide)) M11o M5 M11 rfl rfl ?_
  refine J_astore_n Z.1 (lv2 := [(1, va_rf (some a3)), (0, va_rf (some p0))]) dL_law_7 rfl (wL Z (by decide)) rfl ?_
  replace hf := gq_i hf
  obtain ⟨n15, hf⟩ := hf
  have M16 := wmA Z M11 n15
  refine J_new (ci := 11) (r := (RX13, TX13, 52)) Z.1 dL_law_8 rfl q_1394 q_1395 q_148 M11 M16 ?_
  refine J_tg (fun g12 eg12 => ?_)
  rw [← eg12] at M16
  replace hf := lt_i hf g12 eg12
  refine J_th (fun h13 eh13 => ?_)
  replace hf := lt_i hf h13 eh13
  refine J_ta (fun a14 ea14 => ?_)
  replace hf := lt_i hf a14 ea14
  refine J_dup Z.1 dL_law_11 rfl ?_
  replace hf := tg_i hf
  obtain ⟨t17, hf⟩ := hf
  replace hf := bd2_i hf
  obtain ⟨g18, h19, q20, hf⟩ := hf
  replace hf := gq_i hf
  obtain ⟨n21, hf⟩ := hf
  have M22o := pX13_init_mono q20
  have M22 := wmC Z M16 M22o n21
  refine J_callI (as := []) (rest := [va_rf (some a14)]) (sy := [va_rf (some a14)]) Z.1 dL_law_12 cw_L_12 (pX13_init_ok G (dk - 1) (by omega) q20) (wG Z) rfl (by simp [cat_i, cat_l, cat_d, cat_rf]) (wF Z (by omega)) (wO Z (by omega) (by decide)) M22o M16 M22 rfl rfl ?_
  refine J_astore_n Z.1 (lv2 := [(2, va_rf (some a14)), (1, va_rf (some a3)), (0, va_rf (some p0))]) dL_law_15 rfl (wL Z (by decide)) rfl ?_
  refine J_iconst Z.1 (v := 0) (by decide) dL_law_16 ?_
  refine J_istore_n Z.1 (lv2 := [(3, .int 0), (2, va_rf (some a14)), (1, va_rf (some a3)), (0, va_rf (some p0))]) dL_law_17 rfl (wL Z (by decide)) rfl ?_
  refine J_lv [3, 2, 1, 0] rfl ?_
  exact pL_law_l18_ok Z hK hE  FUEL _ _ _ _ _ M22 hf
