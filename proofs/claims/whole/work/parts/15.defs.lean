/-! Words for the trees. -/
def am_cut (l : List Nat) (pc : Nat) : Bool := l.any (Nat.beq pc)
def am_lt {α : Type} (a : α) (f : α → am_Q) : am_Q := f a
def am_si (k : Int) (x : Int32) (t f : am_Q) : am_Q := if x = am_i k then t else f
def am_ac (M : am_M) (r : Nat) (sp : Int32) (q : Nat) (dp n : Int32) (w : Nat) (t : am_Q) (s : am_Q) : am_Q :=
  am_if (2 ≤ r ∧ 2 ≤ q ∧ r ≠ q ∧ (am_K M r).1 = 2 ∧ (am_K M q).1 = 2 ∧ ¬ n < 0 ∧ ¬ dp < 0 ∧ ¬ sp < 0 ∧ sp.toNatClampNeg + n.toNatClampNeg ≤ (am_K M r).2 ∧ dp.toNatClampNeg + n.toNatClampNeg ≤ (am_K M q).2 ∧ w ≤ 8) t s
