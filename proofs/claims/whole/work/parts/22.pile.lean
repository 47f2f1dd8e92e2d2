/-! Whole division, as class and reference do it. -/
theorem tdiv_pos {a b : Int} (hb : 0 < b) : (Int.tdiv a b * b = a → Int.fdiv a b = Int.tdiv a b) ∧ (0 ≤ a → Int.fdiv a b = Int.tdiv a b) ∧ (Int.tdiv a b * b ≠ a → a < 0 → Int.fdiv a b = Int.tdiv a b - 1) := by
  have e0 : Int.fdiv a b = a / b := Int.fdiv_eq_ediv_of_nonneg a (by omega)
  by_cases ha : 0 ≤ a
  · have e1 : Int.tdiv a b = a / b := Int.tdiv_eq_ediv_of_nonneg ha
    exact ⟨fun _ => e0.trans e1.symm, fun _ => e0.trans e1.symm, fun _ h => absurd ha (by omega)⟩
  · have e1 : Int.tdiv a b = -((-a) / b) := by
      have h1 : Int.tdiv (-a) b = (-a) / b := Int.tdiv_eq_ediv_of_nonneg (by omega)
      have h2 : Int.tdiv (-a) b = -(Int.tdiv a b) := Int.neg_tdiv a b
      omega
    have h3 := Int.emod_add_mul_ediv (-a) b
    have h4 := Int.emod_nonneg (-a) (show b ≠ 0 by omega)
    have h5 := Int.emod_lt_of_pos (-a) hb
    generalize hu : (-a) / b = u at e1 h3
    generalize hw : (-a) % b = w at h3 h4 h5
    have e2 : -u * b = -(b * u) := by rw [Int.neg_mul, Int.mul_comm]
    rw [e0, e1]
    refine ⟨fun h => ?_, fun h => absurd h ha, fun h _ => ?_⟩
    · have hw0 : w = 0 := by omega
      have h6 : b * -u = -(b * u) := Int.mul_neg b u
      exact ((Int.ediv_emod_unique hb (r := 0) (q := -u)).mpr ⟨by omega, by omega, hb⟩).1
    · have h6 : b * (-u - 1) = -(b * u) - b := by rw [Int.mul_sub, Int.mul_neg, Int.mul_one]
      exact ((Int.ediv_emod_unique hb (r := b - w) (q := -u - 1)).mpr ⟨by omega, by omega, by omega⟩).1
theorem tdiv_fd {a b : Int} (hb : b ≠ 0) : (Int.tdiv a b * b = a → Int.fdiv a b = Int.tdiv a b) ∧ ((a < 0 ↔ b < 0) → Int.fdiv a b = Int.tdiv a b) ∧ (Int.tdiv a b * b ≠ a → ¬ (a < 0 ↔ b < 0) → Int.fdiv a b = Int.tdiv a b - 1) := by
  by_cases h : 0 < b
  · obtain ⟨h1, h2, h3⟩ := tdiv_pos (a := a) h
    exact ⟨h1, fun g => h2 (by omega), fun g1 g2 => h3 g1 (by omega)⟩
  · obtain ⟨h1, h2, h3⟩ := tdiv_pos (a := -a) (b := -b) (by omega)
    rw [Int.neg_tdiv_neg, Int.neg_fdiv_neg] at h1 h2 h3
    have e : Int.tdiv a b * -b = -(Int.tdiv a b * b) := Int.mul_neg _ _
    rw [e] at h1 h3
    refine ⟨fun g => h1 (by omega), fun g => ?_, fun g1 g2 => ?_⟩
    · by_cases h0 : a = 0
      · subst h0
        exact h1 (by simp)
      · exact h2 (by omega)
    · by_cases h0 : a = 0
      · subst h0
        exact absurd (by simp) g1
      · exact h3 (by omega) (by omega)
theorem tdiv_bd {a b : Int} (h1 : -1000000 ≤ a) (h2 : a ≤ 1000000) : -1000000 ≤ Int.tdiv a b ∧ Int.tdiv a b ≤ 1000000 := by
  have h := Int.natAbs_tdiv_le_natAbs a b
  omega
theorem am_l_tdiv {a b : Int} (h1 : -1000000 ≤ a) (h2 : a ≤ 1000000) (h3 : -1000000 ≤ b) (h4 : b ≤ 1000000) : am_l a / am_l b = am_l (Int.tdiv a b) := by
  rw [← Int64.toInt_inj, Int64.toInt_div, am_l_toInt (by omega) (by omega), am_l_toInt (by omega) (by omega)]
  have h5 := tdiv_bd (b := b) h1 h2
  rw [am_l_toInt (by omega) (by omega)]
  exact Int.bmod_eq_of_le (by show -(18446744073709551616 / 2) ≤ _; omega) (by show _ < (18446744073709551616 + 1) / 2; omega)
theorem am_l_ngi {a : Int} (h1 : -9223372036854775808 ≤ a) (h2 : a < 9223372036854775808) : (am_l a).toBitVec.msb = decide (a < 0) := by
  rw [BitVec.msb_eq_toInt]
  have : (am_l a).toBitVec.toInt = a := am_l_toInt h1 h2
  rw [this]
theorem xor_ge {a b : Int} (h1 : -1000000 ≤ a) (h2 : a ≤ 1000000) (h3 : -1000000 ≤ b) (h4 : b ≤ 1000000) (t f : am_Q) : am_br .ge (lg_cmp (am_l a ^^^ am_l b) (am_l 0)) (am_i 0) t f = if (a < 0 ↔ b < 0) then t else f := by
  have e1 : ((am_l a ^^^ am_l b).toInt < 0) ↔ ¬ (a < 0 ↔ b < 0) := by
    have h5 : (am_l a ^^^ am_l b).toBitVec.msb = decide ((am_l a ^^^ am_l b).toInt < 0) := BitVec.msb_eq_toInt
    rw [Int64.toBitVec_xor, BitVec.msb_xor, am_l_ngi (by omega) (by omega), am_l_ngi (by omega) (by omega)] at h5
    by_cases g1 : a < 0 <;> by_cases g2 : b < 0 <;> simp [g1, g2] at h5 ⊢ <;> omega
  have e2 : am_l a ^^^ am_l b = am_l ((am_l a ^^^ am_l b).toInt) := (Int64.ofInt_toInt _).symm
  rw [e2]
  have b1 : -9223372036854775808 ≤ (am_l a ^^^ am_l b).toInt := Int64.le_toInt _
  have b2 : (am_l a ^^^ am_l b).toInt < 9223372036854775808 := Int64.toInt_lt _
  rw [cmp_ge b1 b2 (by omega) (by omega)]
  by_cases g : (a < 0 ↔ b < 0)
  · rw [if_pos g, if_pos (by have := (not_congr e1).mpr (fun h => h g); omega)]
  · rw [if_neg g, if_neg (by have := e1.mpr g; omega)]
theorem am_l_z0 {b : Int} (h3 : -1000000 ≤ b) (h4 : b ≤ 1000000) : (am_l b = 0) = (b = 0) := am_l_eq (a := b) (b := 0) (by omega) (by omega) (by omega) (by omega)
theorem am_if_f {p : Prop} [Decidable p] (h : ¬ p) (t s : am_Q) : am_if p t s = s := if_neg h
theorem am_if_t {p : Prop} [Decidable p] (h : p) (t s : am_Q) : am_if p t s = t := if_pos h
theorem tm_bd {a b : Int} (h1 : -1000000 ≤ a) (h2 : a ≤ 1000000) (h3 : -1000000 ≤ b) (h4 : b ≤ 1000000) : -1000000000000 ≤ a * b ∧ a * b ≤ 1000000000000 := by
  have h : (a * b).natAbs ≤ 1000000 * 1000000 := by
    rw [Int.natAbs_mul]
    exact Nat.mul_le_mul (by omega) (by omega)
  omega
theorem j_floorDiv {M : am_M} {a b : Int} (h1 : -1000000 ≤ a) (h2 : a ≤ 1000000) (h3 : -1000000 ≤ b) (h4 : b ≤ 1000000) (hb : b ≠ 0) (d : Nat) :
    am_cl 273 d [.long (am_l a), .long (am_l b)] M = some (some (.long (am_l (Int.fdiv a b))), M) := by
  obtain ⟨f1, f2, f3⟩ := tdiv_fd (a := a) hb
  have h5 := tdiv_bd (b := b) h1 h2
  have h6 := tm_bd h5.1 h5.2 h3 h4
  rw [t273, am_if_f (by rw [am_l_z0 h3 h4]; exact hb), xor_ge h1 h2 h3 h4, am_l_tdiv h1 h2 h3 h4, am_l_mul, cmp_eq (by omega) (by omega) (by omega) (by omega), am_l_sub]
  by_cases g : (a < 0 ↔ b < 0)
  · rw [if_pos g, f2 g]
  · rw [if_neg g]
    by_cases g2 : Int.tdiv a b * b = a
    · rw [if_pos g2, f1 g2]
    · rw [if_neg g2, f3 g2 g]
theorem fdiv_bd {a b : Int} (h1 : -1000000 ≤ a) (h2 : a ≤ 1000000) (hb : b ≠ 0) : -1000000 ≤ Int.fdiv a b ∧ Int.fdiv a b ≤ 1000000 := by
  obtain ⟨f1, f2, f3⟩ := tdiv_fd (a := a) hb
  have h5 := tdiv_bd (b := b) h1 h2
  by_cases g2 : Int.tdiv a b * b = a
  · rw [f1 g2]; exact h5
  · by_cases g : (a < 0 ↔ b < 0)
    · rw [f2 g]; exact h5
    · rw [f3 g2 g]
      refine ⟨?_, by omega⟩
      by_cases g3 : Int.tdiv a b = -1000000
      · exfalso
        have h7 : b.natAbs ≤ 1 := by
          rcases Nat.lt_or_ge 1 b.natAbs with h8 | h8
          · exfalso
            have h9 : (Int.tdiv a b).natAbs = a.natAbs / b.natAbs := Int.natAbs_tdiv a b
            have h10 : a.natAbs / b.natAbs ≤ a.natAbs / 2 := Nat.div_le_div_left h8 (by decide)
            omega
          · exact h8
        apply g2
        have : b = 1 ∨ b = -1 := by omega
        rcases this with rfl | rfl
        · rw [Int.tdiv_one, Int.mul_one]
        · have := Int.tdiv_neg a 1
          rw [Int.tdiv_one] at this
          rw [this]; omega
      · omega
theorem opv_1 (a b : Int) : opv 1 a b = clip (a + b) := by
  unfold opv
  rw [if_pos rfl]
theorem opv_2 (a b : Int) : opv 2 a b = clip (a - b) := by
  unfold opv
  rw [if_neg (by decide), if_pos rfl]
theorem opv_3 (a b : Int) : opv 3 a b = clip (a * b) := by
  unfold opv
  rw [if_neg (by decide), if_neg (by decide), if_pos rfl]
theorem opv_4 (a b : Int) : opv 4 a b = (if b = 0 then 0 else Int.fdiv a b) := by
  unfold opv
  rw [if_neg (by decide), if_neg (by decide), if_neg (by decide), if_pos rfl]
theorem opv_5 (a b : Int) : opv 5 a b = (if a < b then a else b) := by
  unfold opv
  rw [if_neg (by decide), if_neg (by decide), if_neg (by decide), if_neg (by decide), if_pos rfl]
theorem opv_6 (a b : Int) : opv 6 a b = (if b < a then a else b) := by
  unfold opv
  rw [if_neg (by decide), if_neg (by decide), if_neg (by decide), if_neg (by decide), if_neg (by decide), if_pos rfl]
theorem opv_7 (a b : Int) : opv 7 a b = (if a < b then 1 else 0) := by
  unfold opv
  rw [if_neg (by decide), if_neg (by decide), if_neg (by decide), if_neg (by decide), if_neg (by decide), if_neg (by decide), if_pos rfl]
theorem opv_8 (a b : Int) : opv 8 a b = (if b < a then 1 else 0) := by
  unfold opv
  rw [if_neg (by decide), if_neg (by decide), if_neg (by decide), if_neg (by decide), if_neg (by decide), if_neg (by decide), if_neg (by decide), if_pos rfl]
theorem opv_9 (a b : Int) : opv 9 a b = (if a = b then 1 else 0) := by
  unfold opv
  rw [if_neg (by decide), if_neg (by decide), if_neg (by decide), if_neg (by decide), if_neg (by decide), if_neg (by decide), if_neg (by decide), if_neg (by decide), if_pos rfl]
theorem opv_10 (a b : Int) : opv 10 a b = a * b := by
  unfold opv
  rw [if_neg (by decide), if_neg (by decide), if_neg (by decide), if_neg (by decide), if_neg (by decide), if_neg (by decide), if_neg (by decide), if_neg (by decide), if_neg (by decide), if_pos rfl]
theorem opv_11 (a b : Int) : opv 11 a b = (if 0 < a + b then 1 else 0) := by
  unfold opv
  rw [if_neg (by decide), if_neg (by decide), if_neg (by decide), if_neg (by decide), if_neg (by decide), if_neg (by decide), if_neg (by decide), if_neg (by decide), if_neg (by decide), if_neg (by decide)]
theorem opv_bd {c a b : Int} (h1 : -1000000 ≤ a) (h2 : a ≤ 1000000) (h3 : -1000000 ≤ b) (h4 : b ≤ 1000000) (hc : c = 10 → (a = 0 ∨ a = 1) ∧ (b = 0 ∨ b = 1)) : -1000000 ≤ opv c a b ∧ opv c a b ≤ 1000000 := by
  unfold opv
  split; exact clip_bd _
  split; exact clip_bd _
  split; exact clip_bd _
  split
  · split
    · omega
    · exact fdiv_bd h1 h2 (by assumption)
  split; (split <;> omega)
  split; (split <;> omega)
  split; (split <;> omega)
  split; (split <;> omega)
  split; (split <;> omega)
  split
  · rename_i h
    obtain ⟨h5, h6⟩ := hc h
    rcases h5 with rfl | rfl <;> rcases h6 with rfl | rfl <;> decide
  · split <;> omega
/-! The pile's sorts. -/
theorem ty1_cases {al : Nat → Bool} {of : Bool} {t t' : List Bool} {c : Int} (h : ty1 al of t c = some t') :
    (∃ v : Int, c = 1000 + v ∧ 0 ≤ v ∧ v ≤ 9999 ∧ t.length < 60 ∧ t' = false :: t) ∨ (c = 60 ∧ of = true ∧ ∃ r, t = false :: r ∧ t' = false :: r) ∨
    (∃ k : Nat, c = 40 + (k : Int) ∧ k < 8 ∧ al k = true ∧ t.length < 60 ∧ t' = false :: t) ∨ (c = 13 ∧ t.length < 60 ∧ t' = true :: t) ∨ (c = 12 ∧ ∃ r, t = true :: r ∧ t' = true :: r) ∨
    ((c = 10 ∨ c = 11) ∧ ∃ r, t = true :: true :: r ∧ t' = true :: r) ∨ ((c = 7 ∨ c = 8 ∨ c = 9) ∧ ∃ r, t = false :: false :: r ∧ t' = true :: r) ∨
    ((c = 1 ∨ c = 2 ∨ c = 3 ∨ c = 4 ∨ c = 5 ∨ c = 6) ∧ ∃ r, t = false :: false :: r ∧ t' = false :: r) := by
  unfold ty1 at h
  split at h
  · split at h
    · rename_i g1 g2
      cases h
      exact Or.inl ⟨c - 1000, by omega, by omega, by omega, g2.2, rfl⟩
    · cases h
  split at h
  · split at h
    · rename_i g1 g2
      split at h
      · cases h
        exact Or.inr (Or.inl ⟨g2.1, g2.2, _, rfl, rfl⟩)
      · cases h
    · cases h
  split at h
  · split at h
    · rename_i g1 g2
      cases h
      exact Or.inr (Or.inr (Or.inl ⟨(c - 40).toNat, by omega, by omega, g2.2.1, g2.2.2, rfl⟩))
    · cases h
  split at h
  · split at h
    · rename_i g1 g2
      cases h
      exact Or.inr (Or.inr (Or.inr (Or.inl ⟨g1, g2, rfl⟩)))
    · cases h
  split at h
  · rename_i g1
    split at h
    · cases h
      exact Or.inr (Or.inr (Or.inr (Or.inr (Or.inl ⟨g1, _, rfl, rfl⟩))))
    · cases h
  split at h
  · split at h
    · cases h
      exact Or.inr (Or.inr (Or.inr (Or.inr (Or.inr (Or.inl ⟨by omega, _, rfl, rfl⟩)))))
    · cases h
  split at h
  · split at h
    · cases h
      exact Or.inr (Or.inr (Or.inr (Or.inr (Or.inr (Or.inr (Or.inl ⟨by omega, _, rfl, rfl⟩))))))
    · cases h
  split at h
  · split at h
    · cases h
      exact Or.inr (Or.inr (Or.inr (Or.inr (Or.inr (Or.inr (Or.inr ⟨by omega, _, rfl, rfl⟩))))))
    · cases h
  · cases h
theorem ty1_len {al : Nat → Bool} {of : Bool} {t t' : List Bool} {c : Int} (h : ty1 al of t c = some t') (ht : t.length ≤ 60) : t'.length ≤ 60 := by
  rcases ty1_cases h with ⟨v, rfl, h1, h2, h3, rfl⟩ | ⟨rfl, h1, r, rfl, rfl⟩ | ⟨k, rfl, h1, h2, h3, rfl⟩ | ⟨rfl, h1, rfl⟩ | ⟨rfl, r, rfl, rfl⟩ | ⟨hc, r, rfl, rfl⟩ | ⟨hc, r, rfl, rfl⟩ | ⟨hc, r, rfl, rfl⟩ <;> simp only [List.length_cons] at * <;> omega
theorem okv_len : ∀ {s : List Int} {t : List Bool}, okv s t → s.length = t.length
  | [], [], _ => rfl
  | _ :: s, _ :: t, h => congrArg Nat.succ (okv_len (s := s) (t := t) h.2)
  | [], _ :: _, h => False.elim h
  | _ :: _, [], h => False.elim h
theorem okv_cons {s : List Int} {b : Bool} {t : List Bool} (h : okv s (b :: t)) : ∃ v s', s = v :: s' ∧ -1000000 ≤ v ∧ v ≤ 1000000 ∧ (b = true → v = 0 ∨ v = 1) ∧ okv s' t := by
  match s, h with
  | v :: s', h => exact ⟨v, s', rfl, h.1.1, h.1.2.1, h.1.2.2, h.2⟩
theorem okv_mk {s : List Int} {v : Int} {b : Bool} {t : List Bool} (h1 : -1000000 ≤ v) (h2 : v ≤ 1000000) (h3 : b = true → v = 0 ∨ v = 1) (h : okv s t) : okv (v :: s) (b :: t) := ⟨⟨h1, h2, h3⟩, h⟩
/-- a pile in a row of ints -/
def stk (R : Nat → Int32) : List Int → Prop
  | [] => True
  | v :: s => R s.length = am_i v ∧ stk R s
def stl (R : Nat → Int64) : List Int → Prop
  | [] => True
  | v :: s => R s.length = am_l v ∧ stl R s
theorem stk_mv {R R' : Nat → Int32} : ∀ {s : List Int}, stk R s → (∀ k, k < s.length → R' k = R k) → stk R' s
  | [], _, _ => trivial
  | _ :: s, h, e => ⟨(e s.length (Nat.lt_succ_self _)).trans h.1, stk_mv h.2 (fun k hk => e k (Nat.lt_succ_of_lt hk))⟩
theorem stl_mv {R R' : Nat → Int64} : ∀ {s : List Int}, stl R s → (∀ k, k < s.length → R' k = R k) → stl R' s
  | [], _, _ => trivial
  | _ :: s, h, e => ⟨(e s.length (Nat.lt_succ_self _)).trans h.1, stl_mv h.2 (fun k hk => e k (Nat.lt_succ_of_lt hk))⟩
theorem fst1_num (F : Nat → Int) (W : Int → Int) (s : List Int) {v : Int} (h : 0 ≤ v) : fst1 F W s (1000 + v) = v :: s := by
  unfold fst1; rw [if_pos (by omega)]; congr 1; omega
theorem fst1_of (F : Nat → Int) (W : Int → Int) (s : List Int) (a : Int) : fst1 F W (a :: s) 60 = W a :: s := rfl
theorem fst1_part (F : Nat → Int) (W : Int → Int) (s : List Int) {k : Nat} (h : k < 8) : fst1 F W s (40 + (k : Int)) = F k :: s := by
  unfold fst1; rw [if_neg (by omega), if_neg (by omega), if_pos (by omega)]
  have : (40 + (k : Int) - 40).toNat = k := by omega
  rw [this]
theorem fst1_all (F : Nat → Int) (W : Int → Int) (s : List Int) : fst1 F W s 13 = 1 :: s := rfl
theorem fst1_not (F : Nat → Int) (W : Int → Int) (s : List Int) (a : Int) : fst1 F W (a :: s) 12 = (1 - a) :: s := rfl
theorem fst1_op (F : Nat → Int) (W : Int → Int) (s : List Int) (a b : Int) {c : Int} (h : 1 ≤ c) (h' : c ≤ 11) : fst1 F W (b :: a :: s) c = opv c a b :: s := by
  unfold fst1; rw [if_neg (by omega), if_neg (by omega), if_neg (by omega), if_neg (by omega), if_neg (by omega)]
/-- what is asked is within the bounds -/
def Fok (al : Nat → Bool) (F : Nat → Int) : Prop := ∀ k, k < 8 → al k = true → -1000000 ≤ F k ∧ F k ≤ 1000000
def Wok (W : Int → Int) : Prop := ∀ a, -1000000 ≤ W a ∧ W a ≤ 1000000
theorem ty1_ok {al : Nat → Bool} {of : Bool} {t t' : List Bool} {c : Int} {F : Nat → Int} {W : Int → Int} {s : List Int} (hF : Fok al F) (hW : Wok W) (ho : okv s t) (h : ty1 al of t c = some t') : okv (fst1 F W s c) t' := by
  rcases ty1_cases h with ⟨v, rfl, h1, h2, h3, rfl⟩ | ⟨rfl, h1, r, rfl, rfl⟩ | ⟨k, rfl, h1, h2, h3, rfl⟩ | ⟨rfl, h1, rfl⟩ | ⟨rfl, r, rfl, rfl⟩ | ⟨hc, r, rfl, rfl⟩ | ⟨hc, r, rfl, rfl⟩ | ⟨hc, r, rfl, rfl⟩
  · rw [fst1_num _ _ _ h1]
    exact okv_mk (by omega) (by omega) (fun h => by cases h) ho
  · obtain ⟨v, s', rfl, g1, g2, g3, g4⟩ := okv_cons ho
    rw [fst1_of]
    exact okv_mk (hW v).1 (hW v).2 (fun h => by cases h) g4
  · rw [fst1_part _ _ _ h1]
    exact okv_mk (hF k h1 h2).1 (hF k h1 h2).2 (fun h => by cases h) ho
  · rw [fst1_all]
    exact okv_mk (by decide) (by decide) (fun _ => Or.inr rfl) ho
  · obtain ⟨v, s', rfl, g1, g2, g3, g4⟩ := okv_cons ho
    rw [fst1_not]
    have := g3 rfl
    exact okv_mk (by omega) (by omega) (fun _ => by omega) g4
  · obtain ⟨b, s', rfl, g1, g2, g3, g4⟩ := okv_cons ho
    obtain ⟨a, s'', rfl, g5, g6, g7, g8⟩ := okv_cons g4
    rw [fst1_op _ _ _ _ _ (by omega) (by omega)]
    have ha := g7 rfl
    have hb := g3 rfl
    have hbd := opv_bd (c := c) g5 g6 g1 g2 (fun _ => ⟨ha, hb⟩)
    refine okv_mk hbd.1 hbd.2 (fun _ => ?_) g8
    rcases hc with rfl | rfl <;> rcases ha with rfl | rfl <;> rcases hb with rfl | rfl <;> decide
  · obtain ⟨b, s', rfl, g1, g2, g3, g4⟩ := okv_cons ho
    obtain ⟨a, s'', rfl, g5, g6, g7, g8⟩ := okv_cons g4
    rw [fst1_op _ _ _ _ _ (by omega) (by omega)]
    have hbd := opv_bd (c := c) g5 g6 g1 g2 (fun h => by omega)
    refine okv_mk hbd.1 hbd.2 (fun _ => ?_) g8
    rcases hc with rfl | rfl | rfl
    · show (if a < b then (1 : Int) else 0) = 0 ∨ (if a < b then (1 : Int) else 0) = 1
      split <;> simp
    · show (if b < a then (1 : Int) else 0) = 0 ∨ (if b < a then (1 : Int) else 0) = 1
      split <;> simp
    · show (if a = b then (1 : Int) else 0) = 0 ∨ (if a = b then (1 : Int) else 0) = 1
      split <;> simp
  · obtain ⟨b, s', rfl, g1, g2, g3, g4⟩ := okv_cons ho
    obtain ⟨a, s'', rfl, g5, g6, g7, g8⟩ := okv_cons g4
    rw [fst1_op _ _ _ _ _ (by omega) (by omega)]
    have hbd := opv_bd (c := c) g5 g6 g1 g2 (fun h => by omega)
    exact okv_mk hbd.1 hbd.2 (fun h => by cases h) g8
theorem tys_ok {al : Nat → Bool} {of : Bool} {F : Nat → Int} {W : Int → Int} (hF : Fok al F) (hW : Wok W) : ∀ {l : List Int} {t t' : List Bool} {s : List Int}, okv s t → tys al of l t = some t' → okv (l.foldl (fst1 F W) s) t'
  | [], t, t', s, ho, h => by cases h; exact ho
  | c :: l, t, t', s, ho, h => by
    show okv (l.foldl (fst1 F W) (fst1 F W s c)) t'
    unfold tys at h
    cases e : ty1 al of t c with
    | none => rw [e] at h; cases h
    | some t1 =>
      rw [e] at h
      exact tys_ok hF hW (ty1_ok hF hW ho e) h
theorem tys_cons {al : Nat → Bool} {of : Bool} {c : Int} {l : List Int} {t t' : List Bool} (h : tys al of (c :: l) t = some t') : ∃ t1, ty1 al of t c = some t1 ∧ tys al of l t1 = some t' := by
  unfold tys at h
  cases e : ty1 al of t c with
  | none => rw [e] at h; cases h
  | some t1 => rw [e] at h; exact ⟨t1, rfl, h⟩
/-- a good formula's value -/
theorem fev_ok {al : Nat → Bool} {of b : Bool} {F : Nat → Int} {W : Int → Int} {l : List Int} (hF : Fok al F) (hW : Wok W) (h : wf al of b l) : -1000000 ≤ fev F W l ∧ fev F W l ≤ 1000000 ∧ (b = true → fev F W l = 0 ∨ fev F W l = 1) := by
  obtain ⟨v, s', e, g1, g2, g3, g4⟩ := okv_cons (tys_ok hF hW (s := []) (t := []) trivial h)
  unfold fev
  rw [e]
  exact ⟨g1, g2, g3⟩
