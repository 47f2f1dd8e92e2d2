/-! What the constructors do, reckoned. -/
/-- the same, with the row laid out before what follows -/
def ls_setK {α β : Type} (z : α) : List α → Nat → α → (List α → β) → β
  | [], 0, v, c => c [v]
  | [], k + 1, v, c => ls_setK z [] k v (fun l => c (z :: l))
  | _ :: l, 0, v, c => c (v :: l)
  | x :: l, k + 1, v, c => ls_setK z l k v (fun l => c (x :: l))
theorem ls_setK_eq {α β : Type} (z v : α) : ∀ (l : List α) (k : Nat) (c : List α → β), ls_setK z l k v c = c (ls_set z l k v)
  | [], 0, _ => rfl
  | [], k + 1, c => ls_setK_eq z v [] k _
  | _ :: _, 0, _ => rfl
  | _ :: l, k + 1, c => ls_setK_eq z v l k _
def ls_appK {α β : Type} : List α → List α → (List α → β) → β
  | [], m, c => c m
  | x :: l, m, c => ls_appK l m (fun l => c (x :: l))
theorem ls_appK_eq {α β : Type} (m : List α) : ∀ (l : List α) (c : List α → β), ls_appK l m c = c (l ++ m)
  | [], _ => rfl
  | _ :: l, c => ls_appK_eq m l _
def cv_sIk {β : Type} (S : cv_S) (a j : Nat) (v : Int) (c : cv_S → β) : β := ls_setK 0 (S.2.1.getD a []) j v (fun w => ls_setK [] S.2.1 a w (fun t => c (S.1, t, S.2.2)))
theorem cv_sIk_eq {β : Type} (S : cv_S) (a j : Nat) (v : Int) (c : cv_S → β) : cv_sIk S a j v c = c (cv_sI S a j v) := by
  unfold cv_sIk
  rw [ls_setK_eq, ls_setK_eq]
  rfl
def cv_sLk {β : Type} (S : cv_S) (a j : Nat) (v : Int) (c : cv_S → β) : β := ls_setK 0 (S.2.2.1.getD a []) j v (fun w => ls_setK [] S.2.2.1 a w (fun t => c (S.1, S.2.1, t, S.2.2.2)))
theorem cv_sLk_eq {β : Type} (S : cv_S) (a j : Nat) (v : Int) (c : cv_S → β) : cv_sLk S a j v c = c (cv_sL S a j v) := by
  unfold cv_sLk
  rw [ls_setK_eq, ls_setK_eq]
  rfl
def cv_sRk {β : Type} (S : cv_S) (a j v : Nat) (c : cv_S → β) : β := ls_setK 0 (S.2.2.2.1.getD a []) j v (fun w => ls_setK [] S.2.2.2.1 a w (fun t => c (S.1, S.2.1, S.2.2.1, t, S.2.2.2.2)))
theorem cv_sRk_eq {β : Type} (S : cv_S) (a j v : Nat) (c : cv_S → β) : cv_sRk S a j v c = c (cv_sR S a j v) := by
  unfold cv_sRk
  rw [ls_setK_eq, ls_setK_eq]
  rfl
def cv_nwk {β : Type} (S : cv_S) (q : Nat × Nat) (w : Nat) (c : cv_S → β) : β := ls_appK S.1 [q] (fun t => c (t, S.2.1, S.2.2.1, S.2.2.2.1, S.2.2.2.2 + w))
theorem cv_nwk_eq {β : Type} (S : cv_S) (q : Nat × Nat) (w : Nat) (c : cv_S → β) : cv_nwk S q w c = c (cv_nw S q w) := by
  unfold cv_nwk
  rw [ls_appK_eq]
  rfl
def cv_nmk {β : Type} (S : cv_S) (n k : Nat) (c : cv_S → β) : β := ls_appK S.1 ((6, n) :: List.replicate n (2, k)) (fun t => ls_setK [] S.2.2.2.1 S.1.length ((List.range n).map (fun j => S.1.length + 1 + j)) (fun u => c (t, S.2.1, S.2.2.1, u, S.2.2.2.2 + n + n * k)))
theorem cv_nmk_eq {β : Type} (S : cv_S) (n k : Nat) (c : cv_S → β) : cv_nmk S n k c = c (cv_nm S n k) := by
  unfold cv_nmk
  rw [ls_appK_eq, ls_setK_eq]
  rfl
def cv_words : List Nat := [107, 105, 110, 100, 32, 102, 105, 108, 109, 32, 112, 97, 114, 116, 115, 32, 105, 115, 32, 112, 101, 114, 115, 111, 110, 32, 97, 116, 32, 116, 111, 32, 108, 105, 107, 101, 115, 32, 112, 114, 101, 115, 115, 32, 108, 101, 97, 114, 110, 115, 32, 102, 97, 100, 101, 115, 32, 109, 97, 121, 32, 115, 99, 114, 101, 101, 110, 115, 32, 112, 114, 105, 99, 101, 32, 98, 111, 116, 104, 101, 114, 32, 115, 116, 114, 97, 110, 103, 101, 32, 104, 111, 117, 114, 32, 116, 97, 115, 116, 101, 32, 119, 101, 105, 103, 104, 116, 32, 115, 101, 101, 110, 32, 115, 99, 111, 114, 101, 32, 119, 111, 114, 116, 104, 32, 110, 117, 109, 98, 101, 114, 32, 111, 114, 32, 97, 110, 100, 32, 110, 111, 116, 32, 97, 108, 108, 32, 109, 105, 110, 32, 109, 97, 120, 32, 102, 105, 114, 115, 116, 32, 108, 97, 115, 116, 32, 111, 102, 116, 101, 110, 32, 116, 111, 116, 97, 108, 32, 109, 111, 115, 116, 32, 108, 101, 97, 115, 116, 32]
theorem cv_wlen : am_words.length = 189 := by decide +kernel
theorem cv_wcd : am_words.toList.map Char.toNat = cv_words := by decide +kernel
theorem cv_wch {k : Nat} (h : k < 189) : am_ch k = am_i (cv_words.getD k 0 : Nat) := by
  unfold am_ch
  rw [am_i_nI, ← cv_wcd]
  have hl : k < am_words.toList.length := by
    have h1 : (am_words.toList.map Char.toNat).length = 189 := by rw [cv_wcd]; rfl
    rw [List.length_map] at h1
    omega
  simp [List.getD_eq_getElem?_getD, hl]
abbrev cv_okb (S : cv_S) : Prop := 2 ≤ S.1.length ∧ S.2.1.length ≤ S.1.length ∧ S.2.2.1.length ≤ S.1.length ∧ S.2.2.2.1.length ≤ S.1.length
abbrev cv_at (S : cv_S) (r g : Nat) (i : Int) : Prop := 2 ≤ r ∧ (cv_K S r).1 = g ∧ 0 ≤ i ∧ i < ((cv_K S r).2 : Int) ∧ (cv_K S r).2 ≤ 65536
abbrev cv_is (S : cv_S) (r a : Nat) : Prop := 2 ≤ r ∧ cv_K S r = (1, a)
noncomputable def cv_run (fnd : Nat → Nat → Option am_E) : Nat → Nat → Nat → Nat → List cv_V → List cv_V → cv_S → Option cv_S
  | 0, _, _, _, _, _, _ => none
  | n + 1, m, d, pc, ls, st, S => match fnd m pc with
    | none => none
    | some (ins, len, a, b, c, _, z, _) => match ins with
      | .iconst _ => cv_run fnd n m d (pc + len) ls ((1, z) :: st) S
      | .bipush _ => cv_run fnd n m d (pc + len) ls ((1, z) :: st) S
      | .sipush _ => cv_run fnd n m d (pc + len) ls ((1, z) :: st) S
      | .ldc _ => if b = 1 then cv_run fnd n m d (pc + len) ls ((3, 1) :: st) S else cv_run fnd n m d (pc + len) ls ((1, z) :: st) S
      | .lconst _ => cv_run fnd n m d (pc + len) ls ((2, z) :: st) S
      | .iload_n _ => cv_if ((cv_nth ls a).1 = 1) (cv_run fnd n m d (pc + len) ls ((1, (cv_nth ls a).2) :: st) S)
      | .iload _ => cv_if ((cv_nth ls a).1 = 1) (cv_run fnd n m d (pc + len) ls ((1, (cv_nth ls a).2) :: st) S)
      | .aload_n _ => cv_if ((cv_nth ls a).1 = 3) (cv_run fnd n m d (pc + len) ls ((3, (cv_nth ls a).2) :: st) S)
      | .istore_n _ => cv_tI st (fun x t => cv_run fnd n m d (pc + len) (cv_st1 ls a (1, x)) t S)
      | .istore _ => cv_tI st (fun x t => cv_run fnd n m d (pc + len) (cv_st1 ls a (1, x)) t S)
      | .astore_n _ => cv_tR st (fun x t => cv_run fnd n m d (pc + len) (cv_st1 ls a (3, (x : Int))) t S)
      | .iinc _ _ => cv_if ((cv_nth ls a).1 = 1) (cv_run fnd n m d (pc + len) (cv_st1 ls a (1, (cv_nth ls a).2 + z)) st S)
      | .iadd => cv_tI st (fun y t => cv_tI t (fun x t => cv_run fnd n m d (pc + len) ls ((1, x + y) :: t) S))
      | .isub => cv_tI st (fun y t => cv_tI t (fun x t => cv_run fnd n m d (pc + len) ls ((1, x - y) :: t) S))
      | .imul => cv_tI st (fun y t => cv_tI t (fun x t => cv_run fnd n m d (pc + len) ls ((1, x * y) :: t) S))
      | .lshl => cv_tI st (fun y t => cv_tL t (fun x t => cv_if (0 ≤ x ∧ x < 27 ∧ 0 ≤ y ∧ y < 35 ∧ y % 5 = 0) (cv_run fnd n m d (pc + len) ls ((2, ((32 ^ (y / 5).toNat * x.toNat : Nat) : Int)) :: t) S)))
      | .lor => cv_tL st (fun y t => cv_tL t (fun x t => cv_if (0 ≤ x ∧ x < 4611686018427387904 ∧ 0 ≤ y ∧ y < 4611686018427387904) (cv_run fnd n m d (pc + len) ls ((2, ((x.toNat ||| y.toNat : Nat) : Int)) :: t) S)))
      | .i2l => cv_tI st (fun x t => cv_if (-2147483648 ≤ x ∧ x < 2147483648) (cv_run fnd n m d (pc + len) ls ((2, x) :: t) S))
      | .dup => cv_tR st (fun x t => cv_run fnd n m d (pc + len) ls ((3, (x : Int)) :: (3, (x : Int)) :: t) S)
      | .dup2 => cv_tI st (fun y t => cv_tR t (fun x t => cv_run fnd n m d (pc + len) ls ((1, y) :: (3, (x : Int)) :: (1, y) :: (3, (x : Int)) :: t) S))
      | .goto _ => cv_run fnd n m d a ls st S
      | .if_icmp q _ => cv_tI st (fun y t => cv_tI t (fun x t => cv_if ((-2147483648 ≤ x ∧ x < 2147483648) ∧ (-2147483648 ≤ y ∧ y < 2147483648)) (if cv_cm q x y = true then cv_run fnd n m d a ls t S else cv_run fnd n m d (pc + len) ls t S)))
      | .laload => cv_tI st (fun i t => cv_tR t (fun r t => cv_if (cv_at S r 3 i) (cv_run fnd n m d (pc + len) ls ((2, cv_L S r i.toNat) :: t) S)))
      | .iastore => cv_tI st (fun v t => cv_tI t (fun i t => cv_tR t (fun r t => cv_if (cv_at S r 2 i) (cv_sIk S r i.toNat v (fun S => cv_run fnd n m d (pc + len) ls t S)))))
      | .castore => cv_tI st (fun v t => cv_tI t (fun i t => cv_tR t (fun r t => cv_if (cv_at S r 4 i ∧ vp_nar .char (am_i v) = am_i v) (cv_sIk S r i.toNat v (fun S => cv_run fnd n m d (pc + len) ls t S)))))
      | .lastore => cv_tL st (fun v t => cv_tI t (fun i t => cv_tR t (fun r t => cv_if (cv_at S r 3 i) (cv_sLk S r i.toNat v (fun S => cv_run fnd n m d (pc + len) ls t S)))))
      | .aastore => cv_tR st (fun v t => cv_tI t (fun i t => cv_tR t (fun r t => cv_if (cv_at S r 5 i ∧ cv_is S v 0) (cv_sRk S r i.toNat v (fun S => cv_run fnd n m d (pc + len) ls t S)))))
      | .getfield _ => cv_tR st (fun r t => cv_if (cv_is S r a ∧ cv_R S r b ≠ 0) (match c with
          | 3 => cv_run fnd n m d (pc + len) ls ((3, (cv_R S r b : Int)) :: t) S
          | _ => none))
      | .putfield _ => (match c with
          | 1 => cv_tI st (fun v t => cv_tR t (fun r t => cv_if (cv_is S r a) (cv_sIk S r b v (fun S => cv_run fnd n m d (pc + len) ls t S))))
          | 2 => cv_tL st (fun v t => cv_tR t (fun r t => cv_if (cv_is S r a) (cv_sLk S r b v (fun S => cv_run fnd n m d (pc + len) ls t S))))
          | 3 => cv_tR st (fun v t => cv_tR t (fun r t => cv_if (cv_is S r a ∧ v ≠ 0) (cv_sRk S r b v (fun S => cv_run fnd n m d (pc + len) ls t S))))
          | _ => none)
      | .new _ => cv_if (cv_okb S) (cv_nwk S (1, a) b (fun S1 => cv_run fnd n m d (pc + len) ls ((3, (S.1.length : Int)) :: st) S1))
      | .newarray _ => cv_tI st (fun k t => cv_if (cv_okb S ∧ 0 ≤ k ∧ k ≤ 65536) (cv_nwk S (a, k.toNat) k.toNat (fun S1 => cv_run fnd n m d (pc + len) ls ((3, (S.1.length : Int)) :: t) S1)))
      | .anewarray _ => cv_tI st (fun k t => cv_if (cv_okb S ∧ 0 ≤ k ∧ k ≤ 65536) (cv_nwk S (5, k.toNat) k.toNat (fun S1 => cv_run fnd n m d (pc + len) ls ((3, (S.1.length : Int)) :: t) S1)))
      | .multianewarray _ _ => cv_tI st (fun k t => cv_tI t (fun j t => cv_if (cv_okb S ∧ (0 ≤ k ∧ k ≤ 65536) ∧ (0 ≤ j ∧ j ≤ 65536)) (cv_nmk S j.toNat k.toNat (fun S1 => cv_run fnd n m d (pc + len) ls ((3, (S.1.length : Int)) :: t) S1))))
      | .invokespecial _ => (match d with
        | 0 => none
        | d + 1 => (match c with
          | 9 => cv_tR st (fun _ t => cv_if (cv_cat t ≤ 8) (cv_run fnd n m (d + 1) (pc + len) ls t S))
          | 0 => cv_if (b ≤ st.length ∧ cv_cat (cv_dp st b) ≤ 8 ∧ (cv_tk st b []).length ≤ am_ml a ∧ (∀ v ∈ cv_tk st b [], v.1 = 1 ∨ v.1 = 3)) (cv_tR (cv_tk st b []) (fun _ _ => (cv_run fnd n a d 0 (cv_pad (cv_tk st b []) (am_ml a)) [] S).bind (fun S1 => cv_run fnd n m (d + 1) (pc + len) ls (cv_dp st b) S1)))
          | _ => none))
      | .invokevirtual _ => (match d with
        | 0 => none
        | d + 1 => (match c with
          | 10 => cv_tR st (fun r t => cv_if (r = 1 ∧ 8 ≤ d + 1 ∧ cv_cat t ≤ 8) (cv_run fnd n m (d + 1) (pc + len) ls ((1, 189) :: t) S))
          | 11 => cv_tI st (fun i t => cv_tR t (fun r t => cv_if (r = 1 ∧ 8 ≤ d + 1 ∧ (0 ≤ i ∧ i < 189) ∧ cv_cat t ≤ 8) (cv_run fnd n m (d + 1) (pc + len) ls ((1, ((cv_words.getD i.toNat 0 : Nat) : Int)) :: t) S)))
          | _ => none))
      | .return_ => (match st with
        | [] => some S
        | _ => none)
      | _ => none
theorem dv_K {L : Nat} {xs : Nat → Int32} {S : cv_S} {r : Nat} (h : 2 ≤ r) : am_K (den L xs S) r = cv_K S r := if_neg (by omega)
theorem dv_at {L : Nat} {xs : Nat → Int32} {S : cv_S} {r g : Nat} {i : Int} (h : cv_at S r g i) : am_K (den L xs S) r = (g, (cv_K S r).2) := by
  rw [dv_K h.1, ← h.2.1]
theorem dv_ix {L : Nat} {xs : Nat → Int32} {S : cv_S} {r g : Nat} {i : Int} (h : cv_at S r g i) (t s : am_Q) : am_ix (den L xs S) r g (am_i i) t s = t := am_ix_p (dv_at h) h.2.2.1 h.2.2.2.1 h.2.2.2.2 t s
theorem dv_iw {L : Nat} {xs : Nat → Int32} {S : cv_S} {r g : Nat} {i : Int} (h : cv_at S r g i) (t s : am_Q) : am_iw (den L xs S) r g (am_i i) t s = t := am_iw_p (dv_at h) h.1 h.2.2.1 h.2.2.2.1 h.2.2.2.2 t s
theorem dv_ixn {S : cv_S} {r g : Nat} {i : Int} (h : cv_at S r g i) : (am_i i).toNatClampNeg = i.toNat := am_i_ix (by have := h.2.2.1; omega) (by have := h.2.2.2.1; have := h.2.2.2.2; omega)
theorem dv_ob {L : Nat} {xs : Nat → Int32} {S : cv_S} {r a : Nat} (h : cv_is S r a) (t s : am_Q) : am_ob (den L xs S) r a t s = t := am_ob_p (by rw [dv_K h.1]; exact h.2) t s
theorem dv_sz {k : Int} (h : 0 ≤ k ∧ k ≤ 65536) : ¬ (am_i k < 0 ∨ 65536 < (am_i k).toNatClampNeg) := by
  rw [am_i_0, am_i_lt (by omega) (by omega) (by omega) (by omega), am_i_ix (by omega) (by omega)]
  omega
theorem dv_szn {k : Int} (h : 0 ≤ k ∧ k ≤ 65536) : (am_i k).toNatClampNeg = k.toNat := am_i_ix (by omega) (by omega)
theorem dv_lsh {x y : Int} (h : 0 ≤ x ∧ x < 27 ∧ 0 ≤ y ∧ y < 35 ∧ y % 5 = 0) : am_l x <<< ((am_i y).toInt64 &&& 63) = am_l ((32 ^ (y / 5).toNat * x.toNat : Nat) : Int) := by
  obtain ⟨h1, h2, h3, h4, h5⟩ := h
  have e := shl_l ⟨(y / 5).toNat, by omega⟩ ⟨x.toNat, by omega⟩
  rw [am_i2l (by omega) (by omega)]
  simp only [] at e
  rw [show ((x.toNat : Nat) : Int) = x by omega, show 5 * (((y / 5).toNat : Nat) : Int) = y by omega] at e
  exact e
theorem dv_lor {x y : Int} (h : 0 ≤ x ∧ x < 4611686018427387904 ∧ 0 ≤ y ∧ y < 4611686018427387904) : am_l x ||| am_l y = am_l ((x.toNat ||| y.toNat : Nat) : Int) := by
  obtain ⟨h1, h2, h3, h4⟩ := h
  have e := or_l (a := x.toNat) (b := y.toNat) (by omega) (by omega)
  rw [show ((x.toNat : Nat) : Int) = x by omega, show ((y.toNat : Nat) : Int) = y by omega] at e
  exact e
theorem dv_lc {a : Nat} {l : List cv_V} (h : ∀ v ∈ l, v.1 = 1 ∨ v.1 = 3) : am_lc a (l.map dv) = (cv_pad l (am_ml a)).map dv := by
  unfold am_lc
  rw [dv_loc l h, dv_pad]
theorem dv_1 {v : cv_V} (h : v.1 = 1) : dv v = .int (am_i v.2) := by
  obtain ⟨t, z⟩ := v
  have h : t = 1 := h
  subst h
  rfl
theorem dv_3 {v : cv_V} (h : v.1 = 3) : dv v = .ref v.2.toNat := by
  obtain ⟨t, z⟩ := v
  have h : t = 3 := h
  subst h
  rfl
set_option maxHeartbeats 4000000 in
theorem cv_snd {L : Nat} {xs : Nat → Int32} {fnd : Nat → Nat → Option am_E} (hfnd : ∀ m pc e, fnd m pc = some e → am_find (am_tb m) pc = some e) : ∀ (n m d pc : Nat) (ls st : List cv_V) (S S' : cv_S), cv_run fnd n m d pc ls st S = some S' → am_ev m d pc (ls.map dv) (st.map dv) (den L xs S) = some (none, den L xs S') := by
  intro n
  induction n with
  | zero => intro m d pc ls st S S' h; cases h
  | succ n ih =>
    intro m d pc ls st S S' h
    unfold cv_run at h
    cases hf0 : fnd m pc with
    | none => rw [hf0] at h; cases h
    | some e =>
      obtain ⟨ins, len, a, b, c, y0, z, sw⟩ := e
      have hf := hfnd _ _ _ hf0
      rw [hf0] at h
      rw [am_ev_eq]
      unfold am_nx am_step
      rw [hf]
      dsimp only at h ⊢
      split at h
      · exact ih _ _ _ _ _ _ _ h
      · exact ih _ _ _ _ _ _ _ h
      · exact ih _ _ _ _ _ _ _ h
      · by_cases g : b = 1
        · rw [if_pos g] at h ⊢
          exact ih _ _ _ _ _ _ _ h
        · rw [if_neg g] at h ⊢
          exact ih _ _ _ _ _ _ _ h
      · exact ih _ _ _ _ _ _ _ h
      · obtain ⟨g, h⟩ := cv_if_of h
        dsimp only
        rw [dv_nth, dv_1 g]
        exact ih _ _ _ _ _ _ _ h
      · obtain ⟨g, h⟩ := cv_if_of h
        dsimp only
        rw [dv_nth, dv_1 g]
        exact ih _ _ _ _ _ _ _ h
      · obtain ⟨g, h⟩ := cv_if_of h
        dsimp only
        rw [dv_nth, dv_3 g]
        exact ih _ _ _ _ _ _ _ h
      · obtain ⟨x, t, e, hh⟩ := cv_tI_of h
        clear h
        subst e
        have h := hh
        clear hh
        have h := ih _ _ _ _ _ _ _ h
        rw [← dv_st1] at h
        exact h
      · obtain ⟨x, t, e, hh⟩ := cv_tI_of h
        clear h
        subst e
        have h := hh
        clear hh
        have h := ih _ _ _ _ _ _ _ h
        rw [← dv_st1] at h
        exact h
      · obtain ⟨x, t, e, hh⟩ := cv_tR_of h
        clear h
        subst e
        have h := hh
        clear hh
        have h := ih _ _ _ _ _ _ _ h
        rw [← dv_st1] at h
        exact h
      · obtain ⟨g, h⟩ := cv_if_of h
        dsimp only
        rw [dv_nth, dv_1 g]
        have h := ih _ _ _ _ _ _ _ h
        rw [← dv_st1] at h
        show am_ev m d (pc + len) (am_st1 (ls.map dv) a (.int (am_i (cv_nth ls a).2 + am_i z))) (st.map dv) (den L xs S) = _
        rw [am_i_add]
        exact h
      · obtain ⟨y, t, e, hh⟩ := cv_tI_of h
        clear h
        subst e
        have h := hh
        clear hh
        obtain ⟨x, t, e, hh⟩ := cv_tI_of h
        clear h
        subst e
        have h := hh
        clear hh
        show am_ev m d (pc + len) (ls.map dv) (.int (am_i x + am_i y) :: t.map dv) (den L xs S) = _
        rw [am_i_add]
        exact ih _ _ _ _ _ _ _ h
      · obtain ⟨y, t, e, hh⟩ := cv_tI_of h
        clear h
        subst e
        have h := hh
        clear hh
        obtain ⟨x, t, e, hh⟩ := cv_tI_of h
        clear h
        subst e
        have h := hh
        clear hh
        show am_ev m d (pc + len) (ls.map dv) (.int (am_i x - am_i y) :: t.map dv) (den L xs S) = _
        rw [am_i_sub]
        exact ih _ _ _ _ _ _ _ h
      · obtain ⟨y, t, e, hh⟩ := cv_tI_of h
        clear h
        subst e
        have h := hh
        clear hh
        obtain ⟨x, t, e, hh⟩ := cv_tI_of h
        clear h
        subst e
        have h := hh
        clear hh
        show am_ev m d (pc + len) (ls.map dv) (.int (am_i x * am_i y) :: t.map dv) (den L xs S) = _
        rw [am_i_mul]
        exact ih _ _ _ _ _ _ _ h
      · obtain ⟨y, t, e, hh⟩ := cv_tI_of h
        clear h
        subst e
        have h := hh
        clear hh
        obtain ⟨x, t, e, hh⟩ := cv_tL_of h
        clear h
        subst e
        have h := hh
        clear hh
        obtain ⟨g, h⟩ := cv_if_of h
        show am_ev m d (pc + len) (ls.map dv) (.long (am_l x <<< ((am_i y).toInt64 &&& 63)) :: t.map dv) (den L xs S) = _
        rw [dv_lsh g]
        exact ih _ _ _ _ _ _ _ h
      · obtain ⟨y, t, e, hh⟩ := cv_tL_of h
        clear h
        subst e
        have h := hh
        clear hh
        obtain ⟨x, t, e, hh⟩ := cv_tL_of h
        clear h
        subst e
        have h := hh
        clear hh
        obtain ⟨g, h⟩ := cv_if_of h
        show am_ev m d (pc + len) (ls.map dv) (.long (am_l x ||| am_l y) :: t.map dv) (den L xs S) = _
        rw [dv_lor g]
        exact ih _ _ _ _ _ _ _ h
      · obtain ⟨x, t, e, hh⟩ := cv_tI_of h
        clear h
        subst e
        have h := hh
        clear hh
        obtain ⟨g, h⟩ := cv_if_of h
        show am_ev m d (pc + len) (ls.map dv) (.long (am_i x).toInt64 :: t.map dv) (den L xs S) = _
        rw [am_i2l g.1 g.2]
        exact ih _ _ _ _ _ _ _ h
      · obtain ⟨x, t, e, hh⟩ := cv_tR_of h
        clear h
        subst e
        have h := hh
        clear hh
        exact ih _ _ _ _ _ _ _ h
      · obtain ⟨y, t, e, hh⟩ := cv_tI_of h
        clear h
        subst e
        have h := hh
        clear hh
        obtain ⟨x, t, e, hh⟩ := cv_tR_of h
        clear h
        subst e
        have h := hh
        clear hh
        exact ih _ _ _ _ _ _ _ h
      · exact ih _ _ _ _ _ _ _ h
      · obtain ⟨y, t, e, hh⟩ := cv_tI_of h
        clear h
        subst e
        have h := hh
        clear hh
        obtain ⟨x, t, e, hh⟩ := cv_tI_of h
        clear h
        subst e
        have h := hh
        clear hh
        obtain ⟨g, h⟩ := cv_if_of h
        refine (dv_br g.1 g.2 _ _).trans ?_
        split at h
        · rename_i g2
          rw [if_pos g2]
          exact ih _ _ _ _ _ _ _ h
        · rename_i g2
          rw [if_neg g2]
          exact ih _ _ _ _ _ _ _ h
      · obtain ⟨i, t, e, hh⟩ := cv_tI_of h
        clear h
        subst e
        have h := hh
        clear hh
        obtain ⟨r, t, e, hh⟩ := cv_tR_of h
        clear h
        subst e
        have h := hh
        clear hh
        obtain ⟨g, h⟩ := cv_if_of h
        show am_ix (den L xs S) r.toNat 3 (am_i i) (am_ev m d (pc + len) (ls.map dv) (.long (am_L (den L xs S) r.toNat (am_i i).toNatClampNeg) :: t.map dv) (den L xs S)) none = _
        rw [dv_ix g, dv_ixn g]
        exact ih _ _ _ _ _ _ _ h
      · obtain ⟨v, t, e, hh⟩ := cv_tI_of h
        clear h
        subst e
        have h := hh
        clear hh
        obtain ⟨i, t, e, hh⟩ := cv_tI_of h
        clear h
        subst e
        have h := hh
        clear hh
        obtain ⟨r, t, e, hh⟩ := cv_tR_of h
        clear h
        subst e
        have h := hh
        clear hh
        obtain ⟨g, h⟩ := cv_if_of h
        show am_iw (den L xs S) r.toNat 2 (am_i i) (am_ev m d (pc + len) (ls.map dv) (t.map dv) (am_sI (den L xs S) r.toNat (am_i i).toNatClampNeg (am_i v))) none = _
        rw [cv_sIk_eq] at h
        rw [dv_iw g, dv_ixn g, den_sI (by have := g.1; omega)]
        exact ih _ _ _ _ _ _ _ h
      · obtain ⟨v, t, e, hh⟩ := cv_tI_of h
        clear h
        subst e
        have h := hh
        clear hh
        obtain ⟨i, t, e, hh⟩ := cv_tI_of h
        clear h
        subst e
        have h := hh
        clear hh
        obtain ⟨r, t, e, hh⟩ := cv_tR_of h
        clear h
        subst e
        have h := hh
        clear hh
        obtain ⟨⟨g, g2⟩, h⟩ := cv_if_of h
        show am_iw (den L xs S) r.toNat 4 (am_i i) (am_if (vp_nar .char (am_i v) = am_i v) (am_ev m d (pc + len) (ls.map dv) (t.map dv) (am_sI (den L xs S) r.toNat (am_i i).toNatClampNeg (am_i v))) none) none = _
        rw [cv_sIk_eq] at h
        rw [dv_iw g, dv_ixn g, den_sI (by have := g.1; omega)]
        unfold am_if
        rw [if_pos g2]
        exact ih _ _ _ _ _ _ _ h
      · obtain ⟨v, t, e, hh⟩ := cv_tL_of h
        clear h
        subst e
        have h := hh
        clear hh
        obtain ⟨i, t, e, hh⟩ := cv_tI_of h
        clear h
        subst e
        have h := hh
        clear hh
        obtain ⟨r, t, e, hh⟩ := cv_tR_of h
        clear h
        subst e
        have h := hh
        clear hh
        obtain ⟨g, h⟩ := cv_if_of h
        show am_iw (den L xs S) r.toNat 3 (am_i i) (am_ev m d (pc + len) (ls.map dv) (t.map dv) (am_sL (den L xs S) r.toNat (am_i i).toNatClampNeg (am_l v))) none = _
        rw [cv_sLk_eq] at h
        rw [dv_iw g, dv_ixn g, den_sL]
        exact ih _ _ _ _ _ _ _ h
      · obtain ⟨v, t, e, hh⟩ := cv_tR_of h
        clear h
        subst e
        have h := hh
        clear hh
        obtain ⟨i, t, e, hh⟩ := cv_tI_of h
        clear h
        subst e
        have h := hh
        clear hh
        obtain ⟨r, t, e, hh⟩ := cv_tR_of h
        clear h
        subst e
        have h := hh
        clear hh
        obtain ⟨⟨g, g2⟩, h⟩ := cv_if_of h
        show am_iw (den L xs S) r.toNat 5 (am_i i) (am_if (am_K (den L xs S) v.toNat = (1, 0) ∧ 2 ≤ v.toNat) (am_ev m d (pc + len) (ls.map dv) (t.map dv) (am_sR (den L xs S) r.toNat (am_i i).toNatClampNeg v.toNat)) none) none = _
        rw [cv_sRk_eq] at h
        rw [dv_iw g, dv_ixn g, den_sR (by have := g2.1; omega)]
        unfold am_if
        rw [if_pos ⟨by rw [dv_K g2.1]; exact g2.2, g2.1⟩]
        exact ih _ _ _ _ _ _ _ h
      · obtain ⟨r, t, e, hh⟩ := cv_tR_of h
        clear h
        subst e
        have h := hh
        clear hh
        obtain ⟨⟨g, g2⟩, h⟩ := cv_if_of h
        split at h
        · show am_ob (den L xs S) r.toNat a (am_gr (am_R (den L xs S) r.toNat b) (fun q => am_ev m d (pc + len) (ls.map dv) (.ref q :: t.map dv) (den L xs S)) none) none = _
          rw [dv_ob g, show am_R (den L xs S) r.toNat b = some (cv_R S r.toNat b) from cv_o_pos g2]
          exact ih _ _ _ _ _ _ _ h
        · cases h
      · split at h
        · obtain ⟨v, t, e, hh⟩ := cv_tI_of h
          clear h
          subst e
          have h := hh
          clear hh
          obtain ⟨r, t, e, hh⟩ := cv_tR_of h
          clear h
          subst e
          have h := hh
          clear hh
          obtain ⟨g, h⟩ := cv_if_of h
          show am_ob (den L xs S) r.toNat a (am_ev m d (pc + len) (ls.map dv) (t.map dv) (am_sI (den L xs S) r.toNat b (am_i v))) none = _
          rw [cv_sIk_eq] at h
          rw [dv_ob g, den_sI (by have := g.1; omega)]
          exact ih _ _ _ _ _ _ _ h
        · obtain ⟨v, t, e, hh⟩ := cv_tL_of h
          clear h
          subst e
          have h := hh
          clear hh
          obtain ⟨r, t, e, hh⟩ := cv_tR_of h
          clear h
          subst e
          have h := hh
          clear hh
          obtain ⟨g, h⟩ := cv_if_of h
          show am_ob (den L xs S) r.toNat a (am_ev m d (pc + len) (ls.map dv) (t.map dv) (am_sL (den L xs S) r.toNat b (am_l v))) none = _
          rw [cv_sLk_eq] at h
          rw [dv_ob g, den_sL]
          exact ih _ _ _ _ _ _ _ h
        · obtain ⟨v, t, e, hh⟩ := cv_tR_of h
          clear h
          subst e
          have h := hh
          clear hh
          obtain ⟨r, t, e, hh⟩ := cv_tR_of h
          clear h
          subst e
          have h := hh
          clear hh
          obtain ⟨⟨g, g2⟩, h⟩ := cv_if_of h
          show am_ob (den L xs S) r.toNat a (am_ev m d (pc + len) (ls.map dv) (t.map dv) (am_sR (den L xs S) r.toNat b v.toNat)) none = _
          rw [cv_sRk_eq] at h
          rw [dv_ob g, den_sR g2]
          exact ih _ _ _ _ _ _ _ h
        · cases h
      · obtain ⟨g, h⟩ := cv_if_of h
        show am_ev m d (pc + len) (ls.map dv) (.ref S.1.length :: st.map dv) (am_nw (den L xs S) (1, a) b) = _
        rw [cv_nwk_eq] at h
        rw [den_nw g]
        exact ih _ _ _ _ _ _ _ h
      · obtain ⟨k, t, e, hh⟩ := cv_tI_of h
        clear h
        subst e
        have h := hh
        clear hh
        obtain ⟨⟨g, g2⟩, h⟩ := cv_if_of h
        show am_if (am_i k < 0 ∨ 65536 < (am_i k).toNatClampNeg) none (am_ev m d (pc + len) (ls.map dv) (.ref S.1.length :: t.map dv) (am_nw (den L xs S) (a, (am_i k).toNatClampNeg) (am_i k).toNatClampNeg)) = _
        unfold am_if
        rw [cv_nwk_eq] at h
        rw [if_neg (dv_sz g2), dv_szn g2, den_nw g]
        exact ih _ _ _ _ _ _ _ h
      · obtain ⟨k, t, e, hh⟩ := cv_tI_of h
        clear h
        subst e
        have h := hh
        clear hh
        obtain ⟨⟨g, g2⟩, h⟩ := cv_if_of h
        show am_if (am_i k < 0 ∨ 65536 < (am_i k).toNatClampNeg) none (am_ev m d (pc + len) (ls.map dv) (.ref S.1.length :: t.map dv) (am_nw (den L xs S) (5, (am_i k).toNatClampNeg) (am_i k).toNatClampNeg)) = _
        unfold am_if
        rw [cv_nwk_eq] at h
        rw [if_neg (dv_sz g2), dv_szn g2, den_nw g]
        exact ih _ _ _ _ _ _ _ h
      · obtain ⟨k, t, e, hh⟩ := cv_tI_of h
        clear h
        subst e
        have h := hh
        clear hh
        obtain ⟨j, t, e, hh⟩ := cv_tI_of h
        clear h
        subst e
        have h := hh
        clear hh
        obtain ⟨⟨g, g2, g3⟩, h⟩ := cv_if_of h
        have e1 := dv_sz g2
        have e2 := dv_sz g3
        show am_if (am_i j < 0 ∨ 65536 < (am_i j).toNatClampNeg ∨ am_i k < 0 ∨ 65536 < (am_i k).toNatClampNeg) none (am_ev m d (pc + len) (ls.map dv) (.ref S.1.length :: t.map dv) (am_nm (den L xs S) (am_i j).toNatClampNeg (am_i k).toNatClampNeg)) = _
        unfold am_if
        rw [cv_nmk_eq] at h
        rw [if_neg (fun q => q.elim (fun q => e2 (Or.inl q)) (fun q => q.elim (fun q => e2 (Or.inr q)) e1)), dv_szn g2, dv_szn g3, den_nm g]
        exact ih _ _ _ _ _ _ _ h
      · cases d with
        | zero => cases h
        | succ d =>
          dsimp only at h ⊢
          split at h
          · obtain ⟨r, t, e, hh⟩ := cv_tR_of h
            clear h
            subst e
            have h := hh
            clear hh
            obtain ⟨g, h⟩ := cv_if_of h
            show am_if (am_cat (t.map dv) ≤ 8) (am_ev m (d + 1) (pc + len) (ls.map dv) (t.map dv) (den L xs S)) none = _
            unfold am_if
            rw [dv_cat, if_pos g]
            exact ih _ _ _ _ _ _ _ h
          · obtain ⟨⟨g1, g2, g3, g4⟩, h⟩ := cv_if_of h
            obtain ⟨r, t, e, h⟩ := cv_tR_of h
            obtain ⟨S1, h1, h2⟩ := Option.bind_eq_some_iff.mp h
            have i1 := ih _ _ _ _ _ _ _ h1
            have i2 := ih _ _ _ _ _ _ _ h2
            have ek : am_tk (st.map dv) b [] = (cv_tk st b []).map dv := dv_tk st b []
            have hc : am_cok a b (st.map dv) = true := by
              unfold am_cok
              rw [ek, dv_dp, dv_cat, dv_loc _ g4, List.length_map, List.length_map, Nat.ble_eq_true_of_le g1, Nat.ble_eq_true_of_le g2, Nat.ble_eq_true_of_le g3]
              rfl
            show am_if (am_cok a b (st.map dv) = true) (am_tR (am_tk (st.map dv) b []) (fun _ _ => am_bV (am_ev a d 0 (am_lc a (am_tk (st.map dv) b [])) [] (den L xs S)) (fun M => am_ev m (d + 1) (pc + len) (ls.map dv) (am_dp (st.map dv) b) M)) none) none = _
            unfold am_if
            rw [if_pos hc, ek, dv_lc g4, e]
            show am_bV (am_ev a d 0 ((cv_pad ((3, r) :: t) (am_ml a)).map dv) [] (den L xs S)) (fun M => am_ev m (d + 1) (pc + len) (ls.map dv) (am_dp (st.map dv) b) M) = _
            rw [← e]
            have i1 : am_ev a d 0 ((cv_pad (cv_tk st b []) (am_ml a)).map dv) [] (den L xs S) = some (none, den L xs S1) := i1
            rw [i1, am_bV_p, dv_dp]
            exact i2
          · cases h
      · cases d with
        | zero => cases h
        | succ d =>
          dsimp only at h ⊢
          split at h
          · obtain ⟨r, t, e, hh⟩ := cv_tR_of h
            clear h
            subst e
            have h := hh
            clear hh
            obtain ⟨⟨g1, g2, g3⟩, h⟩ := cv_if_of h
            show am_if (r.toNat = 1 ∧ 8 ≤ d + 1 ∧ am_cat (t.map dv) ≤ 8) (am_ev m (d + 1) (pc + len) (ls.map dv) (.int (nI am_words.length) :: t.map dv) (den L xs S)) none = _
            unfold am_if
            rw [if_pos ⟨g1, g2, by rw [dv_cat]; exact g3⟩, cv_wlen, am_i_nI]
            exact ih _ _ _ _ _ _ _ h
          · obtain ⟨i, t, e, hh⟩ := cv_tI_of h
            clear h
            subst e
            have h := hh
            clear hh
            obtain ⟨r, t, e, hh⟩ := cv_tR_of h
            clear h
            subst e
            have h := hh
            clear hh
            obtain ⟨⟨g1, g2, g3, g4⟩, h⟩ := cv_if_of h
            have ei : (am_i i).toNatClampNeg = i.toNat := am_i_ix (by omega) (by omega)
            show am_if (r.toNat = 1 ∧ 8 ≤ d + 1 ∧ ¬ (am_i i < 0 ∨ am_words.length ≤ (am_i i).toNatClampNeg) ∧ am_cat (t.map dv) ≤ 8) (am_ev m (d + 1) (pc + len) (ls.map dv) (.int (am_ch (am_i i).toNatClampNeg) :: t.map dv) (den L xs S)) none = _
            unfold am_if
            rw [if_pos ⟨g1, g2, am_inx g3.1 (by rw [cv_wlen]; omega) (by rw [cv_wlen]; decide), by rw [dv_cat]; exact g4⟩, ei, cv_wch (by omega)]
            exact ih _ _ _ _ _ _ _ h
          · cases h
      · split at h
        · cases h; rfl
        · cases h
      · cases h
/-- a call of a constructor -/
theorem cv_cl {L : Nat} {xs : Nat → Int32} {fnd : Nat → Nat → Option am_E} (hfnd : ∀ m pc e, fnd m pc = some e → am_find (am_tb m) pc = some e) {n m d : Nat} {a : List cv_V} {S S' : cv_S} (ha : ∀ v ∈ a, v.1 = 1 ∨ v.1 = 3) (h : cv_run fnd n m d 0 (cv_pad a (am_ml m)) [] S = some S') : am_cl m d (a.map dv) (den L xs S) = some (none, den L xs S') := by
  show am_ev m d 0 (am_lc m (a.map dv)) [] (den L xs S) = _
  rw [dv_lc ha]
  exact cv_snd hfnd _ _ _ _ _ _ _ _ h
/-- an instruction, found block by block -/
def cv_fc : List (Nat × List (Nat × am_E)) → Nat → Option am_E
  | [], _ => none
  | (u, l) :: r, k => bif Nat.blt k u then am_find l k else cv_fc r k
def cv_jn : List (Nat × List (Nat × am_E)) → List (Nat × am_E)
  | [] => []
  | (_, l) :: r => l ++ cv_jn r
theorem am_find_app {α : Type} (m : List (Nat × α)) (k : Nat) : ∀ (l : List (Nat × α)), am_find (l ++ m) k = match am_find l k with
    | some x => some x
    | none => am_find m k
  | [] => rfl
  | (a, x) :: l => by
    show (bif Nat.beq a k then some x else am_find (l ++ m) k) = match (bif Nat.beq a k then some x else am_find l k) with
      | some x => some x
      | none => am_find m k
    cases Nat.beq a k
    · exact am_find_app m k l
    · rfl
theorem am_find_no {α : Type} {k u : Nat} (h : u ≤ k) : ∀ (l : List (Nat × α)), l.all (fun e => Nat.blt e.1 u) = true → am_find l k = none
  | [], _ => rfl
  | (a, x) :: l, ha => by
    rw [List.all_cons, Bool.and_eq_true] at ha
    have h1 : a < u := Nat.blt_eq.mp ha.1
    have h2 : Nat.beq a k = false := by
      cases hb : Nat.beq a k with
      | false => rfl
      | true => have := Nat.eq_of_beq_eq_true hb; omega
    show (bif Nat.beq a k then some x else am_find l k) = none
    rw [h2]
    exact am_find_no h l ha.2
theorem cv_fc_ok {k : Nat} {e : am_E} : ∀ (cs : List (Nat × List (Nat × am_E))), (cs.all (fun c => c.2.all (fun e => Nat.blt e.1 c.1))) = true → cv_fc cs k = some e → am_find (cv_jn cs) k = some e
  | [], _, h => by cases h
  | (u, l) :: r, ha, h => by
    rw [List.all_cons, Bool.and_eq_true] at ha
    have h : (bif Nat.blt k u then am_find l k else cv_fc r k) = some e := h
    show am_find (l ++ cv_jn r) k = some e
    rw [am_find_app]
    cases hb : Nat.blt k u with
    | true =>
      rw [hb] at h
      have h : am_find l k = some e := h
      rw [h]
    | false =>
      rw [hb] at h
      have h : cv_fc r k = some e := h
      have hk : u ≤ k := by
        apply Nat.le_of_not_lt
        intro g
        rw [Nat.blt_eq.mpr g] at hb
        cases hb
      rw [am_find_no hk l ha.1]
      exact cv_fc_ok r ha.2 h
