/-! An account, and how it lies in the class and in the reference. -/
/-- does p press -/
def prs (A : am_A) (p : Nat) : Int := A 1 0 0 / ((2 ^ p : Nat) : Int) % 2
/-- by which profile p goes -/
def prof (A : am_A) (p : Nat) : Nat := if prs A p = 1 then p + 1 else 0
/-- the bounds of an account in a house -/
def aB (X : am_X) (A : am_A) : Prop := (0 ≤ A 0 0 0 ∧ A 0 0 0 ≤ 23999) ∧ (0 ≤ A 1 0 0 ∧ A 1 0 0 < 32) ∧ (∀ q, q < 6 → ∀ k, k < 6 → 0 ≤ A 2 q k ∧ A 2 q k ≤ 999) ∧ (∀ q, q < 6 → ∀ f, f < 8 → 0 ≤ A 3 q f ∧ A 3 q f ≤ 9 ∧ (f < nF X → A 3 q f ≤ X 2 f 0)) ∧ (∀ p, p < 5 → 0 ≤ A 4 p 0 ∧ A 4 p 0 ≤ 9999)
def cA (M : am_M) (a : Nat) (A : am_A) : Prop := am_I M a 0 = am_i (A 0 0 0) ∧ am_I M a 1 = am_i (A 1 0 0) ∧ (∀ q, q < 6 → ∀ k, k < 6 → am_I M (a + 1) (6 * q + k) = am_i (A 2 q k)) ∧ (∀ q, q < 6 → ∀ f, f < 8 → am_I M (a + 2) (8 * q + f) = am_i (A 3 q f)) ∧ (∀ p, p < 5 → am_I M (a + 3) p = am_i (A 4 p 0))
def mA (M : am_M) (A : am_A) : Prop := am_I M 229 0 = am_i (A 0 0 0 / 24) ∧ am_I M 229 1 = am_i (A 0 0 0 % 24) ∧ (∀ q, q < 6 → ∀ k, k < 6 → am_I M 229 (2 + 14 * q + k) = am_i (A 2 q k)) ∧ (∀ q, q < 6 → ∀ f, f < 8 → am_I M 229 (2 + 14 * q + 6 + f) = am_i (A 3 q f)) ∧ (∀ p, p < 5 → am_I M 229 (86 + 2 * p) = am_i (prs A p)) ∧ (∀ p, p < 5 → am_I M 229 (87 + 2 * p) = am_i (A 4 p 0))
theorem bit_0 : ∀ P : Fin 32, ∀ p : Fin 5, ((am_i (P.val : Int)) >>> ((am_i (p.val : Int)) &&& 31)) &&& am_i 1 = am_i ((P.val : Int) / ((2 ^ p.val : Nat) : Int) % 2) := by decide +kernel
theorem bit_p {P : Int} (h0 : 0 ≤ P) (h1 : P < 32) {p : Nat} (hp : p < 5) : ((am_i P) >>> ((am_i p) &&& 31)) &&& am_i 1 = am_i (P / ((2 ^ p : Nat) : Int) % 2) := by
  have h := bit_0 ⟨P.toNat, by omega⟩ ⟨p, hp⟩
  have e : ((P.toNat : Nat) : Int) = P := by omega
  simp only [e] at h
  exact h
theorem prs_01 (A : am_A) (p : Nat) : prs A p = 0 ∨ prs A p = 1 := by unfold prs; omega
theorem prof_lt (A : am_A) {p : Nat} (hp : p < 5) : prof A p < 6 := by unfold prof; split <;> omega
/-- the class's profileOf -/
theorem c_profileOf {L : Nat} {q : am_Pq} {M : am_M} {a : Nat} (S : am_Sh L q M) (ha : isA a) {X : am_X} {A : am_A} (HA : cA M a A) (B : aB X A) {p : Nat} (hp : p < 5) (d : Nat) :
    am_cl 67 d [.ref a, .int (am_i p)] M = some (some (.int (am_i (prof A p))), M) := by
  have e1 := HA.2.1
  have e2 := bit_p B.2.1.1 B.2.1.2 hp
  have e3 : A 1 0 0 / ((2 ^ p : Nat) : Int) % 2 = prs A p := rfl
  have h01 := prs_01 A p
  rw [t67]
  simp (disch := omega) only [am_ob_p (A_k0 S ha), e1, e2, e3, am_br_ne, am_i_add]
  unfold prof
  by_cases h : prs A p = 1
  · rw [if_pos h, if_pos h]; rfl
  · rw [if_neg h, if_neg h]; rfl
/-- the reference's profileOf -/
theorem m_doesPress {L : Nat} {q : am_Pq} {M : am_M} (S : am_Sh L q M) {A : am_A} (HA : mA M A) {p : Nat} (hp : p < 5) (d : Nat) :
    am_cl 167 d [.ref 187, .int (am_i p)] M = some (some (.int (am_i (prs A p))), M) := by
  have e1 := HA.2.2.2.2.1 p hp
  have e2 : ((86 : Int) + 2 * (p : Int)).toNat = 86 + 2 * p := by omega
  have h01 := prs_01 A p
  rw [t167]
  simp (disch := omega) only [am_ob_p (kk_187 S), rr_187_54 S, am_gr_p, am_i_mul, am_i_add, am_ix_p (kk_229 S), am_i_ix, e2, e1, am_br_ne, am_tr_0, am_tr_1]
  rcases h01 with h | h
  · rw [if_neg (by omega), h]
  · rw [if_pos h, h]
theorem m_profileOf {L : Nat} {q : am_Pq} {M : am_M} (S : am_Sh L q M) {A : am_A} (HA : mA M A) {p : Nat} (hp : p < 5) (d : Nat) :
    am_cl 170 (d + 1) [.ref 187, .int (am_i p)] M = some (some (.int (am_i (prof A p))), M) := by
  have h01 := prs_01 A p
  rw [t170]
  simp (disch := omega) only [am_ob_p (kk_187 S), m_doesPress S HA hp d, am_bI_p, am_br_eq, am_i_add]
  unfold prof
  rcases h01 with h | h
  · rw [if_pos h, if_neg (by omega)]; rfl
  · rw [if_neg (by omega), if_pos h]
    exact congrArg (fun v => some (some (Value.int (am_i v)), M)) (by omega)
def score' (X : am_X) (A : am_A) (q f : Nat) (k : Nat) : Int := 1 + sm (fun k => X 3 f k * A 2 q k) k
theorem score_bd {X : am_X} {A : am_A} (B : hB X) (BA : aB X A) {q f : Nat} (hq : q < 6) (hf : f < 8) : 1 ≤ score X A q f ∧ score X A q f ≤ 53947 := by
  have hk : nK X ≤ 6 := by unfold nK; have := B.1; omega
  have h := sm_bd (f := fun k => X 3 f k * A 2 q k) (n := nK X) (c := 8991) (fun k hk2 => by
    have h1 := B.2.2.2.2.1 f hf k (by omega)
    have h2 := BA.2.2.1 q hq k (by omega)
    exact mul9 h1.1 h1.2 h2.1 999 h2.2)
  have h3 : (nK X : Int) * 8991 ≤ 53946 := by omega
  unfold score
  exact ⟨by omega, by omega⟩
/-- the reference's scoreOf -/
theorem m_scoreOf {L : Nat} {q0 : am_Pq} {M : am_M} (S : am_Sh L q0 M) {X : am_X} {A : am_A} (HX : mH M X) (HA : mA M A) (B : hB X) {q f : Nat} (hq : q < 6) (hf : f < 8) (d : Nat) :
    am_cl 174 (d + 1) [.ref 187, .int (am_i q), .int (am_i f)] M = some (some (.int (am_i (score X A q f))), M) := by
  have hB0 := B.1
  have hkk : ((nK X : Nat) : Int) = X 0 0 0 := by unfold nK; omega
  have key : ∀ n k : Nat, k + n = nK X → am_ev 174 (d + 1) 5 [.ref 187, .int (am_i q), .int (am_i f), .int (am_i (score' X A q f k)), .int (am_i k)] [] M = some (some (.int (am_i (score X A q f))), M) := by
    intro n
    induction n with
    | zero =>
      intro k hk
      rw [t174_5]
      simp (disch := omega) only [am_ob_p (kk_187 S), m_kindMany S HX d, am_bI_p, am_br_ge]
      rw [if_pos (by omega)]
      have : k = nK X := by omega
      rw [this]
      rfl
    | succ n ih =>
      intro k hk
      have hk6 : k < 6 := by omega
      have e1 := HA.2.2.1 q hq k hk6
      have e2 : ((2 : Int) + 14 * (q : Int) + (k : Int)).toNat = 2 + 14 * q + k := by omega
      rw [t174_5]
      simp (disch := omega) only [am_ob_p (kk_187 S), m_kindMany S HX d, am_bI_p, am_br_ge, m_weightOf S HX hf hk6 d, rr_187_54 S, am_gr_p, t171, am_i_mul, am_i_add, am_ix_p (kk_229 S), am_i_ix, e2, e1]
      rw [if_neg (by omega)]
      have e3 : score' X A q f k + X 3 f k * A 2 q k = score' X A q f (k + 1) := Int.add_assoc _ _ _
      rw [e3]
      exact ih (k + 1) (by omega)
  rw [t174]
  exact key (nK X) 0 (by omega)
/-- the class's scoreOf, in a course c whose house is h -/
theorem c_scoreOf {L : Nat} {q0 : am_Pq} {M : am_M} {c h : Nat} (S : am_Sh L q0 M) (hc : isC c) (hh : isH h) (hch : am_R M c 0 = some h) {X : am_X} {A : am_A} (HX : cH M h X) (HA : cA M (c + 1) A) (B : hB X) {q f : Nat} (hq : q < 6) (hf : f < 8) (d : Nat) :
    am_cl 79 d [.ref c, .int (am_i q), .int (am_i f)] M = some (some (.int (am_i (score X A q f))), M) := by
  have hB0 := B.1
  have hkk : ((nK X : Nat) : Int) = X 0 0 0 := by unfold nK; omega
  have e0 := HX.1 0 (by decide)
  have key : ∀ n k : Nat, k + n = nK X → am_ev 79 d 5 [.ref c, .int (am_i q), .int (am_i f), .int (am_i (score' X A q f k)), .int (am_i k)] [] M = some (some (.int (am_i (score X A q f))), M) := by
    intro n
    induction n with
    | zero =>
      intro k hk
      rw [t79_5]
      simp (disch := omega) only [am_ob_p (C_k0 S hc), hch, am_gr_p, am_ob_p (H_k0 S hh), H_r0_0 S hh, am_ix_p (H_k1 S hh), am_i_ix, Int.toNat_zero, e0, am_br_ge]
      rw [if_pos (by omega)]
      have : k = nK X := by omega
      rw [this]
      rfl
    | succ n ih =>
      intro k hk
      have hk6 : k < 6 := by omega
      have e1 := HA.2.2.1 q hq k hk6
      have e2 : ((q : Int) * 6 + (k : Int)).toNat = 6 * q + k := by omega
      have hw := HX.2.2.1 f hf k hk6
      rw [t79_5]
      simp (disch := omega) only [am_ob_p (C_k0 S hc), hch, am_gr_p, am_ob_p (H_k0 S hh), H_r0_0 S hh, H_r0_3 S hh, am_ix_p (H_k1 S hh), am_i_ix, Int.toNat_zero, Int.toNat_natCast, e0, am_br_ge, am_iq_p (H_k7 S hh), H_r7 S hh, am_ix_p (H_q7 S hh hf), hw, C_r0_1 S hc, am_ob_p (C_k1 S hc), C_r1_2 S hc, am_i_mul, am_i_add, am_ix_p (C_k2 S hc), e2, e1, am_lt]
      rw [if_neg (by omega)]
      have e3 : score' X A q f k + X 3 f k * A 2 q k = score' X A q f (k + 1) := Int.add_assoc _ _ _
      rw [e3]
      exact ih (k + 1) (by omega)
  rw [t79]
  exact key (nK X) 0 (by omega)
