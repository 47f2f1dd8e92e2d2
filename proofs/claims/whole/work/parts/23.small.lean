/-! More small methods. -/
/-- is p free in the hour hr -/
def fre (X : am_X) (p : Nat) (hr : Int) : Int := if X 4 p 0 ≤ hr ∧ hr ≤ X 5 p 0 then 1 else 0
theorem c_isFree {L : Nat} {q : am_Pq} {M : am_M} {h : Nat} (S : am_Sh L q M) (hh : isH h) {X : am_X} (HX : cH M h X) (B : hB X) {p : Nat} (hp : p < 5) {hr : Int} (h0 : 0 ≤ hr) (h1 : hr ≤ 23) (d : Nat) :
    am_cl 87 d [.ref h, .int (am_i p), .int (am_i hr)] M = some (some (.int (am_i (fre X p hr))), M) := by
  have e4 := HX.2.2.2.1 p hp
  have e5 := HX.2.2.2.2.1 p hp
  have b4 := B.2.2.2.2.2.1 p hp
  have b5 := B.2.2.2.2.2.2.1 p hp
  rw [t87]
  simp (disch := omega) only [am_ob_p (H_k0 S hh), H_r0_4 S hh, H_r0_5 S hh, am_gr_p, am_ix_p (H_k16 S hh), am_ix_p (H_k17 S hh), am_i_ix, Int.toNat_natCast, e4, e5, am_br_lt, am_br_gt, am_tr_0, am_tr_1]
  unfold fre
  by_cases g1 : hr < X 4 p 0
  · rw [if_pos g1, if_neg (by omega)]
  · rw [if_neg g1]
    by_cases g2 : X 5 p 0 < hr
    · rw [if_pos g2, if_neg (by omega)]
    · rw [if_neg g2, if_pos (by omega)]
theorem cmp_lt {a b : Int} (h1 : -9223372036854775808 ≤ a) (h2 : a < 9223372036854775808) (h3 : -9223372036854775808 ≤ b) (h4 : b < 9223372036854775808) (t f : am_Q) : am_br .lt (lg_cmp (am_l a) (am_l b)) (am_i 0) t f = if a < b then t else f := by
  unfold lg_cmp
  have e1 : (am_l a > am_l b) = (b < a) := am_l_lt h3 h4 h1 h2
  have e2 : (am_l a = am_l b) = (a = b) := am_l_eq h1 h2 h3 h4
  simp only [e1, e2]
  by_cases g1 : b < a
  · rw [if_pos g1, if_neg (by omega)]; rfl
  · rw [if_neg g1]
    by_cases g2 : a = b
    · rw [if_pos g2, if_neg (by omega)]; rfl
    · rw [if_neg g2, if_pos (by omega)]; rfl
theorem cmp_gt {a b : Int} (h1 : -9223372036854775808 ≤ a) (h2 : a < 9223372036854775808) (h3 : -9223372036854775808 ≤ b) (h4 : b < 9223372036854775808) (t f : am_Q) : am_br .gt (lg_cmp (am_l a) (am_l b)) (am_i 0) t f = if b < a then t else f := by
  unfold lg_cmp
  have e1 : (am_l a > am_l b) = (b < a) := am_l_lt h3 h4 h1 h2
  have e2 : (am_l a = am_l b) = (a = b) := am_l_eq h1 h2 h3 h4
  simp only [e1, e2]
  by_cases g1 : b < a
  · rw [if_pos g1, if_pos g1]; rfl
  · rw [if_neg g1, if_neg g1]
    by_cases g2 : a = b
    · rw [if_pos g2]; rfl
    · rw [if_neg g2]; rfl
/-- is v in a .. b -/
def isin (v a b : Int) : Int := if a ≤ v ∧ v ≤ b then 1 else 0
theorem m_isIn {M : am_M} {v a b : Int} (h1 : -9223372036854775808 ≤ v) (h2 : v < 9223372036854775808) (h3 : -9223372036854775808 ≤ a) (h4 : a < 9223372036854775808) (h5 : -9223372036854775808 ≤ b) (h6 : b < 9223372036854775808) (d : Nat) :
    am_cl 127 d [.long (am_l v), .long (am_l a), .long (am_l b)] M = some (some (.int (am_i (isin v a b))), M) := by
  rw [t127]
  simp (disch := omega) only [cmp_lt, cmp_gt, am_tr_0, am_tr_1]
  unfold isin
  by_cases g1 : v < a
  · rw [if_pos g1, if_neg (by omega)]
  · rw [if_neg g1]
    by_cases g2 : b < v
    · rw [if_pos g2, if_neg (by omega)]
    · rw [if_neg g2, if_pos (by omega)]
theorem isin_01 (v a b : Int) : isin v a b = 0 ∨ isin v a b = 1 := by unfold isin; split <;> simp
theorem m_isFree {L : Nat} {q : am_Pq} {M : am_M} (S : am_Sh L q M) {X : am_X} (HX : mH M X) (B : hB X) {p : Nat} (hp : p < 5) {hr : Int} (h0 : 0 ≤ hr) (h1 : hr ≤ 23) (d : Nat) :
    am_cl 185 (d + 1) [.ref 187, .int (am_i p), .int (am_i hr)] M = some (some (.int (am_i (fre X p hr))), M) := by
  have e4 := HX.2.2.2.1 p hp
  have e5 := HX.2.2.2.2.1 p hp
  have b4 := B.2.2.2.2.2.1 p hp
  have b5 := B.2.2.2.2.2.2.1 p hp
  have c4 : ((10 : Int) + 2 * (p : Int)).toNat = 10 + 2 * p := by omega
  have c5 : ((11 : Int) + 2 * (p : Int)).toNat = 11 + 2 * p := by omega
  have hi := isin_01 hr (X 4 p 0) (X 5 p 0)
  rw [t185]
  simp (disch := omega) only [am_ob_p (kk_187 S), rr_187_44 S, am_gr_p, am_i_mul, am_i_add, am_ix_p (kk_223 S), am_i_ix, c4, c5, e4, e5, am_i2l, m_isIn, am_bI_p, am_tr_b hi]
  rfl
