/-! Whether so many hours can pass; parts and parts seen. -/
def pas (A : am_A) (n lo hi : Int) : Int := if lo ≤ n ∧ n ≤ hi ∧ n ≤ 23999 - A 0 0 0 then 1 else 0
theorem c_canPass {L : Nat} {q : am_Pq} {M : am_M} (S : am_Sh L q M) {X : am_X} {A : am_A} (HA : cA M 64 A) (B : aB X A) {n lo hi : Int} (h0 : -2147483648 ≤ n) (h1 : n < 2147483648) (h2 : 0 ≤ lo) (h3 : lo ≤ hi) (h4 : hi ≤ 100) (d : Nat) :
    am_cl 41 d [.ref 2, .int (am_i n), .int (am_i lo), .int (am_i hi)] M = some (some (.int (am_i (pas A n lo hi))), M) := by
  have e0 := HA.1
  have b0 := B.1
  rw [t41]
  simp (disch := omega) only [am_ob_p (kk_2 S), rr_2_3 S, am_gr_p, am_ob_p (kk_63 S), rr_63_1 S, am_ob_p (kk_64 S), e0, am_i_sub, am_br_lt, am_br_gt, am_tr_0, am_tr_1]
  unfold pas
  by_cases g1 : n < lo
  · rw [if_pos g1, if_neg (by omega)]
  · rw [if_neg g1]
    by_cases g2 : hi < n
    · rw [if_pos g2, if_neg (by omega)]
    · rw [if_neg g2]
      by_cases g3 : 23999 - A 0 0 0 < n
      · rw [if_pos g3, if_neg (by omega)]
      · rw [if_neg g3, if_pos (by omega)]
theorem m_isAhead {L : Nat} {q : am_Pq} {M : am_M} (S : am_Sh L q M) {X : am_X} {A : am_A} (HA : mA M A) (B : aB X A) {n lo hi : Int} (h0 : -2147483648 ≤ n) (h1 : n < 2147483648) (h2 : 0 ≤ lo) (h3 : lo ≤ hi) (h4 : hi ≤ 100) (d : Nat) :
    am_cl 191 (d + 1) [.ref 187, .int (am_i n), .int (am_i lo), .int (am_i hi)] M = some (some (.int (am_i (pas A n lo hi))), M) := by
  have e0 := HA.1
  have e1 := HA.2.1
  have b0 := B.1
  have hi01 := isin_01 n lo hi
  rw [t191]
  simp (disch := omega) only [am_i2l, m_isIn, am_bI_p, am_br_eq]
  unfold pas isin
  by_cases g : lo ≤ n ∧ n ≤ hi
  · simp only [if_pos g]
    rw [if_neg (by omega)]
    simp (disch := omega) only [am_ob_p (kk_187 S), rr_187_54 S, am_gr_p, am_ix_p (kk_229 S), am_i_ix, Int.toNat_zero, Int.toNat_one, e0, e1, am_i_mul, am_i_add, am_br_gt, am_tr_0, am_tr_1]
    by_cases g3 : 23999 - A 0 0 0 < n
    · rw [if_pos (by omega), if_neg (by omega)]
    · rw [if_neg (by omega), if_pos (by omega)]
  · simp only [if_neg g]
    rw [if_pos trivial, if_neg (by omega)]
    exact am_tr_0 _ _
