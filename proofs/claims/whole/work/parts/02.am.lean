/-! An abstract machine: memory by indices, one step of a method by its table, and its runs. -/
/-- kinds (0: none; 1, c: an object of class c; 2, n: ints; 3, n: longs; 4, n: chars; 5, n: accounts; 6, n: rows of ints), ints, longs, references, the next index, slots made -/
abbrev am_M : Type := (Nat → Nat × Nat) × (Nat → Nat → Int32) × (Nat → Nat → Int64) × (Nat → Nat → Option Nat) × Nat × Nat
def am_K (M : am_M) : Nat → Nat × Nat := M.1
def am_I (M : am_M) : Nat → Nat → Int32 := M.2.1
def am_L (M : am_M) : Nat → Nat → Int64 := M.2.2.1
def am_R (M : am_M) : Nat → Nat → Option Nat := M.2.2.2.1
def am_n (M : am_M) : Nat := M.2.2.2.2.1
def am_s (M : am_M) : Nat := M.2.2.2.2.2
def am_w {α : Type} (f : Nat → Nat → α) (a j : Nat) (v : α) : Nat → Nat → α := fun b k => if b = a ∧ k = j then v else f b k
def am_sI (M : am_M) (a j : Nat) (v : Int32) : am_M := (am_K M, am_w (am_I M) a j v, am_L M, am_R M, am_n M, am_s M)
def am_sL (M : am_M) (a j : Nat) (v : Int64) : am_M := (am_K M, am_I M, am_w (am_L M) a j v, am_R M, am_n M, am_s M)
def am_sR (M : am_M) (a j : Nat) (v : Nat) : am_M := (am_K M, am_I M, am_L M, am_w (am_R M) a j (some v), am_n M, am_s M)
/-- n slots of a row of ints, over those of another -/
def am_cp (M : am_M) (a sp b dp n : Nat) : am_M := (am_K M, fun c k => if c = b ∧ dp ≤ k ∧ k < dp + n then am_I M a (sp + (k - dp)) else am_I M c k, am_L M, am_R M, am_n M, am_s M)
/-- a new cell of kind q, with w slots -/
def am_nw (M : am_M) (q : Nat × Nat) (w : Nat) : am_M := (fun b => if b = am_n M then q else am_K M b, fun b k => if b = am_n M then 0 else am_I M b k, fun b k => if b = am_n M then 0 else am_L M b k, fun b k => if b = am_n M then none else am_R M b k, am_n M + 1, am_s M + w)
/-- n rows of k ints, and the row of them ahead -/
def am_nm (M : am_M) (n k : Nat) : am_M := (fun b => if b = am_n M then (6, n) else if am_n M < b ∧ b < am_n M + 1 + n then (2, k) else am_K M b, fun b j => if am_n M ≤ b ∧ b < am_n M + 1 + n then 0 else am_I M b j, fun b j => if am_n M ≤ b ∧ b < am_n M + 1 + n then 0 else am_L M b j, fun b j => if b = am_n M then (if j < n then some (am_n M + 1 + j) else none) else if am_n M < b ∧ b < am_n M + 1 + n then none else am_R M b j, am_n M + 1 + n, am_s M + n + n * k)
def am_i (z : Int) : Int32 := Int32.ofInt z
def am_l (z : Int) : Int64 := Int64.ofInt z
def am_nth : List Value → Nat → Value
  | [], _ => .null
  | v :: _, 0 => v
  | _ :: l, k + 1 => am_nth l k
def am_kl : Value → Value
  | .long _ => .null
  | .double _ => .null
  | v => v
/-- a local of one word; a long whose second word it is goes -/
def am_st1 : List Value → Nat → Value → List Value
  | [], _, _ => []
  | _ :: l, 0, v => v :: l
  | x :: l, 1, v => am_kl x :: am_st1 l 0 v
  | x :: l, k + 2, v => x :: am_st1 l (k + 1) v
def am_kh : List Value → List Value
  | [] => []
  | _ :: l => .null :: l
/-- a local of two words -/
def am_st2 : List Value → Nat → Value → List Value
  | [], _, _ => []
  | _ :: l, 0, v => v :: am_kh l
  | x :: l, 1, v => am_kl x :: am_st2 l 0 v
  | x :: l, k + 2, v => x :: am_st2 l (k + 1) v
/-- a method's first locals -/
def am_loc : List Value → List Value
  | [] => []
  | .long x :: l => .long x :: .null :: am_loc l
  | .double x :: l => .double x :: .null :: am_loc l
  | v :: l => v :: am_loc l
def am_pad : List Value → Nat → List Value
  | l, 0 => l
  | [], n + 1 => .null :: am_pad [] n
  | v :: l, n + 1 => v :: am_pad l n
def am_cat : List Value → Nat
  | [] => 0
  | v :: l => v.category + am_cat l
def am_find {α : Type} : List (Nat × α) → Nat → Option α
  | [], _ => none
  | (a, x) :: l, k => bif Nat.beq a k then some x else am_find l k
