/-! What a house and an account are, apart from any machine; what is reckoned of them. -/
/-- a house: 0 how many of a sort, 2 parts, 3 weights, 4 first hours, 5 last hours, 6 likes, 7 who presses, 8 screens, 9 price, 10 bother, 11 strange -/
abbrev am_X : Type := Nat → Nat → Nat → Int
/-- an account: 0 time, 1 who presses, 2 tastes, 3 parts seen, 4 hours seen -/
abbrev am_A : Type := Nat → Nat → Nat → Int
def sm (f : Nat → Int) : Nat → Int
  | 0 => 0
  | n + 1 => sm f n + f n
theorem sm_bd {f : Nat → Int} {n : Nat} {c : Int} (h : ∀ k, k < n → 0 ≤ f k ∧ f k ≤ c) : 0 ≤ sm f n ∧ sm f n ≤ n * c := by
  induction n with
  | zero => simp [sm]
  | succ n ih =>
    have h1 := ih (fun k hk => h k (by omega))
    have h2 := h n (by omega)
    show 0 ≤ sm f n + f n ∧ sm f n + f n ≤ ((n + 1 : Nat) : Int) * c
    have h3 : ((n + 1 : Nat) : Int) * c = n * c + c := by rw [Int.natCast_add, Int.add_mul]; simp
    rw [h3]
    omega
def nK (X : am_X) : Nat := (X 0 0 0).toNat
def nF (X : am_X) : Nat := (X 0 1 0).toNat
def nP (X : am_X) : Nat := (X 0 2 0).toNat
/-- the bounds of a house -/
def hB (X : am_X) : Prop := (0 ≤ X 0 0 0 ∧ X 0 0 0 ≤ 6) ∧ (0 ≤ X 0 1 0 ∧ X 0 1 0 ≤ 8) ∧ (0 ≤ X 0 2 0 ∧ X 0 2 0 ≤ 5) ∧ (∀ f, f < 8 → 0 ≤ X 2 f 0 ∧ X 2 f 0 ≤ 9) ∧ (∀ f, f < 8 → ∀ k, k < 6 → 0 ≤ X 3 f k ∧ X 3 f k ≤ 9) ∧
  (∀ p, p < 5 → 0 ≤ X 4 p 0 ∧ X 4 p 0 ≤ 23) ∧ (∀ p, p < 5 → 0 ≤ X 5 p 0 ∧ X 5 p 0 ≤ 23) ∧ (∀ p, p < 5 → ∀ k, k < 6 → 0 ≤ X 6 p k ∧ X 6 p k ≤ 9) ∧ (0 ≤ X 7 0 0 ∧ X 7 0 0 < 32) ∧ (1 ≤ X 8 0 0 ∧ X 8 0 0 ≤ 5) ∧ (0 ≤ X 9 0 0 ∧ X 9 0 0 ≤ 999) ∧ (0 ≤ X 10 0 0 ∧ X 10 0 0 ≤ 99) ∧ (0 ≤ X 11 0 0 ∧ X 11 0 0 ≤ 100)
def worth (X : am_X) (p f : Nat) : Int := sm (fun k => X 3 f k * X 6 p k) (nK X)
def score (X : am_X) (A : am_A) (q f : Nat) : Int := 1 + sm (fun k => X 3 f k * A 2 q k) (nK X)
/-- the class's house at h holds X -/
def cH (M : am_M) (h : Nat) (X : am_X) : Prop := (∀ k, k < 3 → am_I M (h + 1) k = am_i (X 0 k 0)) ∧ (∀ f, f < 8 → am_I M (h + 6) f = am_i (X 2 f 0)) ∧ (∀ f, f < 8 → ∀ k, k < 6 → am_I M (h + 8 + f) k = am_i (X 3 f k)) ∧ (∀ p, p < 5 → am_I M (h + 16) p = am_i (X 4 p 0)) ∧ (∀ p, p < 5 → am_I M (h + 17) p = am_i (X 5 p 0)) ∧ (∀ p, p < 5 → ∀ k, k < 6 → am_I M (h + 19 + p) k = am_i (X 6 p k)) ∧ (∀ j, j < 5 → am_I M h (7 + j) = am_i (X (7 + j) 0 0))
/-- the reference's house holds X -/
def mH (M : am_M) (X : am_X) : Prop := (∀ k, k < 3 → am_I M 219 (3 + k) = am_i (X 0 k 0)) ∧ (∀ f, f < 8 → am_I M 221 (8 + f) = am_i (X 2 f 0)) ∧ (∀ f, f < 8 → ∀ k, k < 6 → am_I M 222 (48 + 6 * f + k) = am_i (X 3 f k)) ∧ (∀ p, p < 5 → am_I M 223 (10 + 2 * p) = am_i (X 4 p 0)) ∧ (∀ p, p < 5 → am_I M 223 (11 + 2 * p) = am_i (X 5 p 0)) ∧ (∀ p, p < 5 → ∀ k, k < 6 → am_I M 224 (30 + 6 * p + k) = am_i (X 6 p k)) ∧ (∀ j, j < 4 → am_I M 225 (4 + j) = am_i (X (8 + j) 0 0))
theorem mul9 {a b : Int} (h1 : 0 ≤ a) (h2 : a ≤ 9) (h3 : 0 ≤ b) (c : Int) (h4 : b ≤ c) : 0 ≤ a * b ∧ a * b ≤ 9 * c := by
  refine ⟨Int.mul_nonneg h1 h3, ?_⟩
  calc a * b ≤ 9 * b := Int.mul_le_mul_of_nonneg_right h2 h3
    _ ≤ 9 * c := Int.mul_le_mul_of_nonneg_left h4 (by decide)
theorem worth_bd {X : am_X} (B : hB X) {p f : Nat} (hp : p < 5) (hf : f < 8) : 0 ≤ worth X p f ∧ worth X p f ≤ 486 := by
  have hk : nK X ≤ 6 := by unfold nK; have := B.1; omega
  have h := sm_bd (f := fun k => X 3 f k * X 6 p k) (n := nK X) (c := 81) (fun k hk2 => by
    have h1 := B.2.2.2.2.1 f hf k (by omega)
    have h2 := B.2.2.2.2.2.2.2.1 p hp k (by omega)
    exact mul9 h1.1 h1.2 h2.1 9 h2.2)
  have h3 : (nK X : Int) * 81 ≤ 486 := by omega
  exact ⟨h.1, Int.le_trans h.2 h3⟩
/-- the class's worthOf -/
theorem c_worthOf {L : Nat} {q : am_Pq} {M : am_M} {h : Nat} (S : am_Sh L q M) (hh : isH h) {X : am_X} (HX : cH M h X) (B : hB X) {p f : Nat} (hp : p < 5) (hf : f < 8) (d : Nat) :
    am_cl 88 d [.ref h, .int (am_i p), .int (am_i f)] M = some (some (.int (am_i (worth X p f))), M) := by
  have hB0 := B.1
  have hkk : ((nK X : Nat) : Int) = X 0 0 0 := by unfold nK; omega
  have e0 := HX.1 0 (by decide)
  have key : ∀ n k : Nat, k + n = nK X → am_ev 88 d 5 [.ref h, .int (am_i p), .int (am_i f), .int (am_i (sm (fun k => X 3 f k * X 6 p k) k)), .int (am_i k)] [] M = some (some (.int (am_i (worth X p f))), M) := by
    intro n
    induction n with
    | zero =>
      intro k hk
      rw [t88_5]
      simp (disch := omega) only [am_ob_p (H_k0 S hh), H_r0_0 S hh, am_gr_p, am_ix_p (H_k1 S hh), am_i_ix, Int.toNat_zero, e0, am_br_ge]
      rw [if_pos (by omega)]
      have : k = nK X := by omega
      rw [this]
      rfl
    | succ n ih =>
      intro k hk
      have hk6 : k < 6 := by omega
      have hw := HX.2.2.1 f hf k hk6
      have hl := HX.2.2.2.2.2.1 p hp k hk6
      rw [t88_5]
      simp (disch := omega) only [am_ob_p (H_k0 S hh), H_r0_0 S hh, H_r0_3 S hh, H_r0_6 S hh, am_gr_p, am_ix_p (H_k1 S hh), am_i_ix, Int.toNat_zero, Int.toNat_natCast, e0, am_br_ge, am_iq_p (H_k7 S hh), am_iq_p (H_k18 S hh), H_r7 S hh, H_r18 S hh, am_ix_p (H_q7 S hh hf), am_ix_p (H_q18 S hh hp), hw, hl, am_lt, am_i_mul, am_i_add]
      rw [if_neg (by omega)]
      exact ih (k + 1) (by omega)
  rw [t88]
  exact key (nK X) 0 (by omega)
