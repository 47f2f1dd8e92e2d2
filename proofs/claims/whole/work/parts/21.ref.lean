/-! The reference's small methods. -/
theorem m_kindMany {L : Nat} {q : am_Pq} {M : am_M} (S : am_Sh L q M) {X : am_X} (HX : mH M X) (d : Nat) :
    am_cl 158 d [.ref 187] M = some (some (.int (am_i (X 0 0 0))), M) := by
  have e0 := HX.1 0 (by decide)
  rw [t158]
  simp (disch := omega) only [am_ob_p (kk_187 S), rr_187_40 S, am_gr_p, am_ix_p (kk_219 S), am_i_ix, Int.reduceToNat, Nat.add_zero, e0]
theorem m_weightOf {L : Nat} {q : am_Pq} {M : am_M} (S : am_Sh L q M) {X : am_X} (HX : mH M X) {f k : Nat} (hf : f < 8) (hk : k < 6) (d : Nat) :
    am_cl 165 d [.ref 187, .int (am_i f), .int (am_i k)] M = some (some (.int (am_i (X 3 f k))), M) := by
  have e0 := HX.2.2.1 f hf k hk
  have e1 : ((48 : Int) + 6 * (f : Int) + (k : Int)).toNat = 48 + 6 * f + k := by omega
  rw [t165]
  simp (disch := omega) only [am_ob_p (kk_187 S), rr_187_43 S, am_gr_p, am_i_mul, am_i_add, am_ix_p (kk_222 S), am_i_ix, e1]
  exact congrArg (fun v => some (some (Value.int v), M)) e0
theorem m_likesOf {L : Nat} {q : am_Pq} {M : am_M} (S : am_Sh L q M) {X : am_X} (HX : mH M X) {p k : Nat} (hp : p < 5) (hk : k < 6) (d : Nat) :
    am_cl 166 d [.ref 187, .int (am_i p), .int (am_i k)] M = some (some (.int (am_i (X 6 p k))), M) := by
  have e0 := HX.2.2.2.2.2.1 p hp k hk
  have e1 : ((30 : Int) + 6 * (p : Int) + (k : Int)).toNat = 30 + 6 * p + k := by omega
  rw [t166]
  simp (disch := omega) only [am_ob_p (kk_187 S), rr_187_45 S, am_gr_p, am_i_mul, am_i_add, am_ix_p (kk_224 S), am_i_ix, e1]
  exact congrArg (fun v => some (some (Value.int v), M)) e0
/-- the reference's worthOf -/
theorem m_worthOf {L : Nat} {q : am_Pq} {M : am_M} (S : am_Sh L q M) {X : am_X} (HX : mH M X) (B : hB X) {p f : Nat} (hp : p < 5) (hf : f < 8) (d : Nat) :
    am_cl 175 (d + 1) [.ref 187, .int (am_i p), .int (am_i f)] M = some (some (.int (am_i (worth X p f))), M) := by
  have hB0 := B.1
  have hkk : ((nK X : Nat) : Int) = X 0 0 0 := by unfold nK; omega
  have key : ∀ n k : Nat, k + n = nK X → am_ev 175 (d + 1) 5 [.ref 187, .int (am_i p), .int (am_i f), .int (am_i (sm (fun k => X 3 f k * X 6 p k) k)), .int (am_i k)] [] M = some (some (.int (am_i (worth X p f))), M) := by
    intro n
    induction n with
    | zero =>
      intro k hk
      rw [t175_5]
      simp (disch := omega) only [am_ob_p (kk_187 S), m_kindMany S HX d, am_bI_p, am_br_ge]
      rw [if_pos (by omega)]
      have : k = nK X := by omega
      rw [this]
      rfl
    | succ n ih =>
      intro k hk
      have hk6 : k < 6 := by omega
      rw [t175_5]
      simp (disch := omega) only [am_ob_p (kk_187 S), m_kindMany S HX d, am_bI_p, am_br_ge, m_weightOf S HX hf hk6 d, m_likesOf S HX hp hk6 d, am_i_mul, am_i_add]
      rw [if_neg (by omega)]
      exact ih (k + 1) (by omega)
  rw [t175]
  exact key (nK X) 0 (by omega)
