/-! A memory written down: kinds, ints, longs, references by rows, slots made; what the constructors do on it. -/
abbrev cv_S : Type := List (Nat × Nat) × List (List Int) × List (List Int) × List (List Nat) × Nat
abbrev cv_V : Type := Nat × Int
def ls_set {α : Type} (z : α) : List α → Nat → α → List α
  | [], 0, v => [v]
  | [], k + 1, v => z :: ls_set z [] k v
  | _ :: l, 0, v => v :: l
  | x :: l, k + 1, v => x :: ls_set z l k v
theorem ls_set_get {α : Type} (z v : α) : ∀ (l : List α) (k j : Nat), (ls_set z l k v).getD j z = if j = k then v else l.getD j z
  | [], 0, 0 => rfl
  | [], 0, j + 1 => by rw [if_neg (by omega)]; rfl
  | [], k + 1, 0 => by rw [if_neg (by omega)]; rfl
  | [], k + 1, j + 1 => by
    show (ls_set z [] k v).getD j z = _
    rw [ls_set_get z v [] k j]
    by_cases h : j = k
    · rw [if_pos h, if_pos (by omega)]
    · rw [if_neg h, if_neg (by omega)]; rfl
  | _ :: _, 0, 0 => rfl
  | _ :: l, 0, j + 1 => by rw [if_neg (by omega)]; rfl
  | _ :: _, k + 1, 0 => by rw [if_neg (by omega)]; rfl
  | x :: l, k + 1, j + 1 => by
    show (ls_set z l k v).getD j z = _
    rw [ls_set_get z v l k j]
    by_cases h : j = k
    · rw [if_pos h, if_pos (by omega)]
    · rw [if_neg h, if_neg (by omega)]; rfl
/-- one cell of a row of rows -/
def ls_cell {α : Type} (z : α) (l : List (List α)) (a j : Nat) (v : α) : List (List α) := ls_set [] l a (ls_set z (l.getD a []) j v)
theorem ls_cell_get {α : Type} (z v : α) (l : List (List α)) (a j b k : Nat) : ((ls_cell z l a j v).getD b []).getD k z = if b = a ∧ k = j then v else (l.getD b []).getD k z := by
  unfold ls_cell
  rw [ls_set_get]
  by_cases h : b = a
  · subst h
    rw [if_pos rfl, ls_set_get]
    by_cases h2 : k = j
    · rw [if_pos h2, if_pos ⟨rfl, h2⟩]
    · rw [if_neg h2, if_neg (fun g => h2 g.2)]
  · rw [if_neg h, if_neg (fun g => h g.1)]
def dv (v : cv_V) : Value := match v.1 with
  | 1 => .int (am_i v.2)
  | 2 => .long (am_l v.2)
  | 3 => .ref v.2.toNat
  | _ => .null
def cv_o : Nat → Option Nat
  | 0 => none
  | t + 1 => some (t + 1)
def cv_K (S : cv_S) : Nat → Nat × Nat := fun r => S.1.getD r (0, 0)
def cv_I (S : cv_S) (b k : Nat) : Int := (S.2.1.getD b []).getD k 0
def cv_L (S : cv_S) (b k : Nat) : Int := (S.2.2.1.getD b []).getD k 0
def cv_R (S : cv_S) (b k : Nat) : Nat := (S.2.2.2.1.getD b []).getD k 0
def den (L : Nat) (xs : Nat → Int32) (S : cv_S) : am_M := (fun r => if r = 0 then (2, L) else cv_K S r, fun b k => if b = 0 then xs k else am_i (cv_I S b k), fun b k => am_l (cv_L S b k), fun b k => cv_o (cv_R S b k), S.1.length, S.2.2.2.2)
def cv_sI (S : cv_S) (a j : Nat) (v : Int) : cv_S := (S.1, ls_cell 0 S.2.1 a j v, S.2.2)
def cv_sL (S : cv_S) (a j : Nat) (v : Int) : cv_S := (S.1, S.2.1, ls_cell 0 S.2.2.1 a j v, S.2.2.2)
def cv_sR (S : cv_S) (a j v : Nat) : cv_S := (S.1, S.2.1, S.2.2.1, ls_cell 0 S.2.2.2.1 a j v, S.2.2.2.2)
def cv_nw (S : cv_S) (q : Nat × Nat) (w : Nat) : cv_S := (S.1 ++ [q], S.2.1, S.2.2.1, S.2.2.2.1, S.2.2.2.2 + w)
/-- nothing lies beyond -/
def cv_ok (S : cv_S) : Prop := 2 ≤ S.1.length ∧ S.2.1.length ≤ S.1.length ∧ S.2.2.1.length ≤ S.1.length ∧ S.2.2.2.1.length ≤ S.1.length
def cv_nm (S : cv_S) (n k : Nat) : cv_S := (S.1 ++ ((6, n) :: List.replicate n (2, k)), S.2.1, S.2.2.1, ls_set [] S.2.2.2.1 S.1.length ((List.range n).map (fun j => S.1.length + 1 + j)), S.2.2.2.2 + n + n * k)
theorem getD_out {α : Type} (z : α) (l : List α) (k : Nat) (h : l.length ≤ k) : l.getD k z = z := by
  rw [List.getD_eq_getElem?_getD, List.getElem?_eq_none h]; rfl
theorem den_sI {L : Nat} {xs : Nat → Int32} {S : cv_S} {a j : Nat} {v : Int} (ha : a ≠ 0) : am_sI (den L xs S) a j (am_i v) = den L xs (cv_sI S a j v) := by
  have e : am_w (am_I (den L xs S)) a j (am_i v) = am_I (den L xs (cv_sI S a j v)) := by
    funext b k
    show (if b = a ∧ k = j then am_i v else if b = 0 then xs k else am_i (cv_I S b k)) = if b = 0 then xs k else am_i (((ls_cell 0 S.2.1 a j v).getD b []).getD k 0)
    rw [ls_cell_get]
    by_cases h : b = a ∧ k = j
    · rw [if_pos h, if_pos h, if_neg (by omega)]
    · rw [if_neg h, if_neg h]; rfl
  exact congrArg (fun f => (am_K (den L xs S), f, am_L (den L xs S), am_R (den L xs S), am_n (den L xs S), am_s (den L xs S))) e
theorem den_sL {L : Nat} {xs : Nat → Int32} {S : cv_S} {a j : Nat} {v : Int} : am_sL (den L xs S) a j (am_l v) = den L xs (cv_sL S a j v) := by
  have e : am_w (am_L (den L xs S)) a j (am_l v) = am_L (den L xs (cv_sL S a j v)) := by
    funext b k
    show (if b = a ∧ k = j then am_l v else am_l (cv_L S b k)) = am_l (((ls_cell 0 S.2.2.1 a j v).getD b []).getD k 0)
    rw [ls_cell_get]
    by_cases h : b = a ∧ k = j
    · rw [if_pos h, if_pos h]
    · rw [if_neg h, if_neg h]; rfl
  exact congrArg (fun f => (am_K (den L xs S), am_I (den L xs S), f, am_R (den L xs S), am_n (den L xs S), am_s (den L xs S))) e
theorem cv_o_pos {v : Nat} (h : v ≠ 0) : cv_o v = some v := by
  cases v with
  | zero => exact absurd rfl h
  | succ v => rfl
theorem den_sR {L : Nat} {xs : Nat → Int32} {S : cv_S} {a j v : Nat} (hv : v ≠ 0) : am_sR (den L xs S) a j v = den L xs (cv_sR S a j v) := by
  have e : am_w (am_R (den L xs S)) a j (some v) = am_R (den L xs (cv_sR S a j v)) := by
    funext b k
    show (if b = a ∧ k = j then some v else cv_o (cv_R S b k)) = cv_o (((ls_cell 0 S.2.2.2.1 a j v).getD b []).getD k 0)
    rw [ls_cell_get]
    by_cases h : b = a ∧ k = j
    · rw [if_pos h, if_pos h, cv_o_pos hv]
    · rw [if_neg h, if_neg h]; rfl
  exact congrArg (fun f => (am_K (den L xs S), am_I (den L xs S), am_L (den L xs S), f, am_n (den L xs S), am_s (den L xs S))) e
theorem am_ext {M N : am_M} (h1 : am_K M = am_K N) (h2 : am_I M = am_I N) (h3 : am_L M = am_L N) (h4 : am_R M = am_R N) (h5 : am_n M = am_n N) (h6 : am_s M = am_s N) : M = N := by
  obtain ⟨a, b, c, d, e, f⟩ := M
  obtain ⟨a', b', c', d', e', f'⟩ := N
  have h1 : a = a' := h1
  have h2 : b = b' := h2
  have h3 : c = c' := h3
  have h4 : d = d' := h4
  have h5 : e = e' := h5
  have h6 : f = f' := h6
  subst h1 h2 h3 h4 h5 h6
  rfl
theorem getD_app {α : Type} (z : α) (l m : List α) (k : Nat) : (l ++ m).getD k z = if k < l.length then l.getD k z else m.getD (k - l.length) z := by
  simp only [List.getD_eq_getElem?_getD, List.getElem?_append]
  split <;> rfl
theorem den_nw {L : Nat} {xs : Nat → Int32} {S : cv_S} {q : Nat × Nat} {w : Nat} (h : cv_ok S) : am_nw (den L xs S) q w = den L xs (cv_nw S q w) := by
  obtain ⟨h1, h2, h3, h4⟩ := h
  refine am_ext ?_ ?_ ?_ ?_ ?_ rfl
  · funext r
    show (if r = S.1.length then q else if r = 0 then (2, L) else S.1.getD r (0, 0)) = if r = 0 then (2, L) else (S.1 ++ [q]).getD r (0, 0)
    rw [getD_app]
    by_cases g : r = S.1.length
    · rw [if_pos g, if_neg (by omega), if_neg (by omega), g, Nat.sub_self]; rfl
    · rw [if_neg g]
      by_cases g0 : r = 0
      · rw [if_pos g0, if_pos g0]
      · rw [if_neg g0, if_neg g0]
        by_cases g1 : r < S.1.length
        · rw [if_pos g1]
        · rw [if_neg g1, getD_out _ _ _ (by omega), getD_out _ _ _ (by show 1 ≤ r - S.1.length; omega)]
  · funext b k
    show (if b = S.1.length then 0 else if b = 0 then xs k else am_i (cv_I S b k)) = if b = 0 then xs k else am_i (cv_I S b k)
    by_cases g : b = S.1.length
    · rw [if_pos g, if_neg (by omega)]
      unfold cv_I
      rw [getD_out _ S.2.1 b (by omega)]
      rfl
    · rw [if_neg g]
  · funext b k
    show (if b = S.1.length then 0 else am_l (cv_L S b k)) = am_l (cv_L S b k)
    by_cases g : b = S.1.length
    · rw [if_pos g]
      unfold cv_L
      rw [getD_out _ S.2.2.1 b (by omega)]
      rfl
    · rw [if_neg g]
  · funext b k
    show (if b = S.1.length then none else cv_o (cv_R S b k)) = cv_o (cv_R S b k)
    by_cases g : b = S.1.length
    · rw [if_pos g]
      unfold cv_R
      rw [getD_out _ S.2.2.2.1 b (by omega)]
      rfl
    · rw [if_neg g]
  · show S.1.length + 1 = (S.1 ++ [q]).length
    simp
theorem den_nm {L : Nat} {xs : Nat → Int32} {S : cv_S} {n k : Nat} (h : cv_ok S) : am_nm (den L xs S) n k = den L xs (cv_nm S n k) := by
  obtain ⟨h1, h2, h3, h4⟩ := h
  refine am_ext ?_ ?_ ?_ ?_ ?_ rfl
  · funext r
    show (if r = S.1.length then (6, n) else if S.1.length < r ∧ r < S.1.length + 1 + n then (2, k) else if r = 0 then (2, L) else S.1.getD r (0, 0)) = if r = 0 then (2, L) else (S.1 ++ ((6, n) :: List.replicate n (2, k))).getD r (0, 0)
    rw [getD_app]
    by_cases g : r = S.1.length
    · rw [if_pos g, if_neg (by omega), if_neg (by omega), g, Nat.sub_self]; rfl
    · rw [if_neg g]
      by_cases g0 : r = 0
      · rw [if_neg (by omega), if_pos g0, if_pos g0]
      · rw [if_neg g0, if_neg g0]
        by_cases g1 : r < S.1.length
        · rw [if_pos g1, if_neg (by omega)]
        · obtain ⟨j, hj⟩ : ∃ j, r - S.1.length = j + 1 := ⟨r - S.1.length - 1, by omega⟩
          rw [if_neg g1, hj]
          show _ = (List.replicate n (2, k)).getD j (0, 0)
          by_cases g2 : j < n
          · rw [if_pos (by omega)]
            simp [List.getD_eq_getElem?_getD, List.getElem?_replicate, g2]
          · rw [if_neg (by omega), getD_out _ _ _ (by omega), getD_out _ _ _ (by rw [List.length_replicate]; omega)]
  · funext b j
    show (if S.1.length ≤ b ∧ b < S.1.length + 1 + n then 0 else if b = 0 then xs j else am_i (cv_I S b j)) = if b = 0 then xs j else am_i (cv_I S b j)
    by_cases g : S.1.length ≤ b ∧ b < S.1.length + 1 + n
    · rw [if_pos g, if_neg (by omega)]
      unfold cv_I
      rw [getD_out _ S.2.1 b (by omega)]
      rfl
    · rw [if_neg g]
  · funext b j
    show (if S.1.length ≤ b ∧ b < S.1.length + 1 + n then 0 else am_l (cv_L S b j)) = am_l (cv_L S b j)
    by_cases g : S.1.length ≤ b ∧ b < S.1.length + 1 + n
    · rw [if_pos g]
      unfold cv_L
      rw [getD_out _ S.2.2.1 b (by omega)]
      rfl
    · rw [if_neg g]
  · funext b j
    show (if b = S.1.length then (if j < n then some (S.1.length + 1 + j) else none) else if S.1.length < b ∧ b < S.1.length + 1 + n then none else cv_o (cv_R S b j)) = cv_o (((ls_set [] S.2.2.2.1 S.1.length ((List.range n).map (fun j => S.1.length + 1 + j))).getD b []).getD j 0)
    rw [ls_set_get]
    by_cases g : b = S.1.length
    · rw [if_pos g, if_pos g]
      by_cases g2 : j < n
      · rw [if_pos g2]
        have : ((List.range n).map (fun j => S.1.length + 1 + j)).getD j 0 = S.1.length + 1 + j := by
          simp [List.getD_eq_getElem?_getD, List.getElem?_range g2]
        rw [this, cv_o_pos (by omega)]
      · rw [if_neg g2, getD_out _ _ _ (by simp; omega)]; rfl
    · rw [if_neg g, if_neg g]
      by_cases g2 : S.1.length < b ∧ b < S.1.length + 1 + n
      · rw [if_pos g2, getD_out _ S.2.2.2.1 b (by omega)]; rfl
      · rw [if_neg g2]; rfl
  · show S.1.length + 1 + n = (S.1 ++ ((6, n) :: List.replicate n (2, k))).length
    simp
    omega
/-! The constructors' instructions. -/
def cv_tI {α : Type} (st : List cv_V) (f : Int → List cv_V → Option α) : Option α := match st with
  | [] => none
  | v :: t => if v.1 = 1 then f v.2 t else none
def cv_tL {α : Type} (st : List cv_V) (f : Int → List cv_V → Option α) : Option α := match st with
  | [] => none
  | v :: t => if v.1 = 2 then f v.2 t else none
def cv_tR {α : Type} (st : List cv_V) (f : Nat → List cv_V → Option α) : Option α := match st with
  | [] => none
  | v :: t => if v.1 = 3 then f v.2.toNat t else none
def cv_if {α : Type} (c : Prop) [Decidable c] (x : Option α) : Option α := if c then x else none
theorem cv_tI_of {α : Type} {st : List cv_V} {f : Int → List cv_V → Option α} {r : α} (h : cv_tI st f = some r) : ∃ x t, st = (1, x) :: t ∧ f x t = some r := by
  match st, h with
  | v :: t, h =>
    unfold cv_tI at h
    simp only [] at h
    by_cases g : v.1 = 1
    · rw [if_pos g] at h
      exact ⟨v.2, t, by rw [← g], h⟩
    · rw [if_neg g] at h
      cases h
theorem cv_tL_of {α : Type} {st : List cv_V} {f : Int → List cv_V → Option α} {r : α} (h : cv_tL st f = some r) : ∃ x t, st = (2, x) :: t ∧ f x t = some r := by
  match st, h with
  | v :: t, h =>
    unfold cv_tL at h
    simp only [] at h
    by_cases g : v.1 = 2
    · rw [if_pos g] at h
      exact ⟨v.2, t, by rw [← g], h⟩
    · rw [if_neg g] at h
      cases h
theorem cv_tR_of {α : Type} {st : List cv_V} {f : Nat → List cv_V → Option α} {r : α} (h : cv_tR st f = some r) : ∃ x t, st = (3, x) :: t ∧ f x.toNat t = some r := by
  match st, h with
  | v :: t, h =>
    unfold cv_tR at h
    simp only [] at h
    by_cases g : v.1 = 3
    · rw [if_pos g] at h
      exact ⟨v.2, t, by rw [← g], h⟩
    · rw [if_neg g] at h
      cases h
theorem cv_if_of {α : Type} {c : Prop} [Decidable c] {x : Option α} {r : α} (h : cv_if c x = some r) : c ∧ x = some r := by
  unfold cv_if at h
  by_cases g : c
  · rw [if_pos g] at h; exact ⟨g, h⟩
  · rw [if_neg g] at h; cases h
def cv_nth : List cv_V → Nat → cv_V
  | [], _ => (0, 0)
  | v :: _, 0 => v
  | _ :: l, k + 1 => cv_nth l k
theorem dv_nth : ∀ (l : List cv_V) (k : Nat), am_nth (l.map dv) k = dv (cv_nth l k)
  | [], _ => rfl
  | _ :: _, 0 => rfl
  | _ :: l, k + 1 => dv_nth l k
def cv_kl (v : cv_V) : cv_V := if v.1 = 2 then (0, 0) else v
theorem dv_kl (v : cv_V) : am_kl (dv v) = dv (cv_kl v) := by
  obtain ⟨t, z⟩ := v
  match t with
  | 0 => rfl
  | 1 => rfl
  | 2 => rfl
  | 3 => rfl
  | t + 4 => rfl
def cv_st1 : List cv_V → Nat → cv_V → List cv_V
  | [], _, _ => []
  | _ :: l, 0, v => v :: l
  | x :: l, 1, v => cv_kl x :: cv_st1 l 0 v
  | x :: l, k + 2, v => x :: cv_st1 l (k + 1) v
theorem dv_st1 (v : cv_V) : ∀ (l : List cv_V) (k : Nat), am_st1 (l.map dv) k (dv v) = (cv_st1 l k v).map dv
  | [], _ => rfl
  | _ :: _, 0 => rfl
  | x :: l, 1 => by
    show am_kl (dv x) :: am_st1 (l.map dv) 0 (dv v) = dv (cv_kl x) :: (cv_st1 l 0 v).map dv
    rw [dv_kl, dv_st1 v l 0]
  | x :: l, k + 2 => by
    show dv x :: am_st1 (l.map dv) (k + 1) (dv v) = dv x :: (cv_st1 l (k + 1) v).map dv
    rw [dv_st1 v l (k + 1)]
def cv_tk : List cv_V → Nat → List cv_V → List cv_V
  | _, 0, acc => acc
  | [], _ + 1, acc => acc
  | v :: l, k + 1, acc => cv_tk l k (v :: acc)
theorem dv_tk : ∀ (l : List cv_V) (k : Nat) (acc : List cv_V), am_tk (l.map dv) k (acc.map dv) = (cv_tk l k acc).map dv
  | [], 0, _ => rfl
  | [], _ + 1, _ => rfl
  | _ :: _, 0, _ => rfl
  | v :: l, k + 1, acc => dv_tk l k (v :: acc)
def cv_dp : List cv_V → Nat → List cv_V
  | l, 0 => l
  | [], _ + 1 => []
  | _ :: l, k + 1 => cv_dp l k
theorem dv_dp : ∀ (l : List cv_V) (k : Nat), am_dp (l.map dv) k = (cv_dp l k).map dv
  | [], 0 => rfl
  | [], _ + 1 => rfl
  | _ :: _, 0 => rfl
  | _ :: l, k + 1 => dv_dp l k
def cv_pad : List cv_V → Nat → List cv_V
  | l, 0 => l
  | [], n + 1 => (0, 0) :: cv_pad [] n
  | v :: l, n + 1 => v :: cv_pad l n
theorem dv_pad : ∀ (l : List cv_V) (k : Nat), am_pad (l.map dv) k = (cv_pad l k).map dv
  | [], 0 => rfl
  | [], n + 1 => congrArg (fun y => Value.null :: y) (dv_pad [] n)
  | _ :: _, 0 => rfl
  | v :: l, n + 1 => congrArg (fun y => dv v :: y) (dv_pad l n)
theorem dv_loc : ∀ (l : List cv_V), (∀ v ∈ l, v.1 = 1 ∨ v.1 = 3) → am_loc (l.map dv) = l.map dv
  | [], _ => rfl
  | (t, z) :: l, h => by
    have h1 := h (t, z) List.mem_cons_self
    have h2 := dv_loc l (fun v hv => h v (List.mem_cons_of_mem _ hv))
    rcases h1 with h1 | h1
    · have h1 : t = 1 := h1
      subst h1
      exact congrArg (fun y => Value.int (am_i z) :: y) h2
    · have h1 : t = 3 := h1
      subst h1
      exact congrArg (fun y => Value.ref z.toNat :: y) h2
def cv_cat : List cv_V → Nat
  | [] => 0
  | v :: l => (if v.1 = 2 then 2 else 1) + cv_cat l
theorem dv_cat : ∀ (l : List cv_V), am_cat (l.map dv) = cv_cat l
  | [] => rfl
  | (t, z) :: l => by
    show (dv (t, z)).category + am_cat (l.map dv) = (if t = 2 then 2 else 1) + cv_cat l
    rw [dv_cat l]
    match t with
    | 0 => rfl
    | 1 => rfl
    | 2 => rfl
    | 3 => rfl
    | t + 4 => rfl
def cv_cm : Jvm.ClassFile.Cond → Int → Int → Bool
  | .eq, x, y => decide (x = y)
  | .ne, x, y => !decide (x = y)
  | .lt, x, y => decide (x < y)
  | .ge, x, y => decide (y ≤ x)
  | .gt, x, y => decide (y < x)
  | .le, x, y => decide (x ≤ y)
def cv_i32 (x : Int) : Prop := -2147483648 ≤ x ∧ x < 2147483648
theorem dv_br {q : Jvm.ClassFile.Cond} {x y : Int} (hx : cv_i32 x) (hy : cv_i32 y) (t f : am_Q) : am_br q (am_i x) (am_i y) t f = if cv_cm q x y = true then t else f := by
  obtain ⟨h1, h2⟩ := hx
  obtain ⟨h3, h4⟩ := hy
  cases q
  · rw [am_br_eq h1 h2 h3 h4]; simp [cv_cm]
  · rw [am_br_ne h1 h2 h3 h4]; by_cases g : x = y <;> simp [cv_cm, g]
  · rw [am_br_lt h1 h2 h3 h4]; simp [cv_cm]
  · rw [am_br_ge h1 h2 h3 h4]; simp [cv_cm]
  · rw [am_br_gt h1 h2 h3 h4]; simp [cv_cm]
  · rw [am_br_le h1 h2 h3 h4]; simp [cv_cm]
