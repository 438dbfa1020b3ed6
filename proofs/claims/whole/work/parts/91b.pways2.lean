/-! what an INSTRUCTION uses and changes: the reference's sets are the same -/
section WAZ
variable {B : Nat} {g : MT} {h : CT}
def readsR (k : Nat) (d a c s : Int32) (m : Bool) : Int32 :=
  let l := if k = 0 then 0 else 4096
  let l := if pX13_readsA (nI k) = 0 then l else l ||| bitI a
  let l := if pX13_readsB (nI k) = 0 then l else l ||| bitI c
  let l := if pX13_readsD (nI k) = 0 ∧ m = false then l else l ||| bitI d
  let l := if k = 2 then l ||| bitI (6 + s) else l
  let l := if m = true ∨ k = 20 ∨ k = 21 ∨ k = 22 then l ||| 1024 else l
  if k = 3 ∨ k = 5 then l ||| 2048 else l
theorem sets_or (b0 bA bC bD bS b1 b2 m : Bool) (x1 x2 x3 x4 u v w : Int32) :
    (let l := if b0 then 0 else u
     let l := if bA then l else l ||| x2
     let l := if bC then l else l ||| x3
     let l := if bD && !m then l else l ||| x1
     let l := if bS then l ||| x4 else l
     let l := if m || b1 then l ||| v else l
     if b2 then l ||| w else l) = (((((((if b0 then 0 else u) ||| (if m then x1 ||| v else 0)) ||| (if bD then 0 else x1)) ||| (if bA then 0 else x2)) ||| (if bC then 0 else x3)) ||| (if bS then x4 else 0)) ||| (if b1 then v else 0)) ||| (if b2 then w else 0) := by
  have hz : ∀ y : Int32, y ||| 0 = y := fun y => Int32.or_zero
  have zh : ∀ y : Int32, 0 ||| y = y := fun y => Int32.zero_or
  have as : ∀ x y z : Int32, (x ||| y) ||| z = x ||| (y ||| z) := fun x y z => Int32.or_assoc x y z
  have cm : ∀ x y : Int32, x ||| y = y ||| x := fun x y => Int32.or_comm x y
  have lc : ∀ x y z : Int32, x ||| (y ||| z) = y ||| (x ||| z) := fun x y z => by rw [← as, cm x y, as]
  have id : ∀ x : Int32, x ||| x = x := fun x => Int32.or_self
  have id2 : ∀ x y : Int32, x ||| (x ||| y) = x ||| y := fun x y => by rw [← as, id]
  cases b0 <;> cases bA <;> cases bC <;> cases bD <;> cases bS <;> cases b1 <;> cases b2 <;> cases m <;> simp only [hz, zh, Bool.false_eq_true, if_true, if_false, Bool.and_true, Bool.true_and, Bool.false_and, Bool.and_false, Bool.not_true, Bool.not_false, Bool.true_or, Bool.or_true, Bool.false_or, Bool.or_false] <;> simp only [as, cm, lc, id, id2]
end WAZ
