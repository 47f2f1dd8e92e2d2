/-! Whether there is such a one. -/
def is1 (X : am_X) (sort : Nat) (w : Int) : Int := if 0 ≤ w ∧ w < X 0 sort 0 then 1 else 0
theorem is1_01 (X : am_X) (sort : Nat) (w : Int) : is1 X sort w = 0 ∨ is1 X sort w = 1 := by unfold is1; split <;> simp
theorem nX_bd {X : am_X} (B : hB X) {sort : Nat} (hs : sort < 3) : 0 ≤ X 0 sort 0 ∧ X 0 sort 0 ≤ 8 := by
  have h0 := B.1
  have h1 := B.2.1
  have h2 := B.2.2.1
  match sort, hs with
  | 0, _ => omega
  | 1, _ => omega
  | 2, _ => omega
  | n + 3, hs => omega
theorem c_isOne {L : Nat} {q : am_Pq} {M : am_M} (S : am_Sh L q M) (hh : isH q.2.2.1) {X : am_X} (HX : cH M q.2.2.1 X) (B : hB X) {sort : Nat} (hs : sort < 3) {w : Int} (h0 : -2147483648 ≤ w) (h1 : w < 2147483648) (d : Nat) :
    am_cl 40 d [.ref 2, .int (am_i sort), .int (am_i w)] M = some (some (.int (am_i (is1 X sort w))), M) := by
  have e0 := HX.1 sort hs
  have b0 := nX_bd B hs
  rw [t40]
  simp (disch := omega) only [am_ob_p (kk_2 S), rr_2_3 S, am_gr_p, am_ob_p (kk_63 S), rr_63_0 S, am_ob_p (H_k0 S hh), H_r0_0 S hh, am_ix_p (H_k1 S hh), am_i_ix, Int.toNat_natCast, e0, am_br_lt, am_br_ge, am_tr_0, am_tr_1]
  unfold is1
  by_cases g1 : w < 0
  · rw [if_pos g1, if_neg (by omega)]
  · rw [if_neg g1]
    by_cases g2 : X 0 sort 0 ≤ w
    · rw [if_pos g2, if_neg (by omega)]
    · rw [if_neg g2, if_pos (by omega)]
theorem m_personMany {L : Nat} {q : am_Pq} {M : am_M} (S : am_Sh L q M) {X : am_X} (HX : mH M X) (d : Nat) :
    am_cl 160 d [.ref 187] M = some (some (.int (am_i (X 0 2 0))), M) := by
  have e0 := HX.1 2 (by decide)
  rw [t160]
  simp (disch := omega) only [am_ob_p (kk_187 S), rr_187_40 S, am_gr_p, am_ix_p (kk_219 S), am_i_ix, Int.reduceToNat, e0]
theorem m_filmMany {L : Nat} {q : am_Pq} {M : am_M} (S : am_Sh L q M) {X : am_X} (HX : mH M X) (d : Nat) :
    am_cl 159 d [.ref 187] M = some (some (.int (am_i (X 0 1 0))), M) := by
  have e0 := HX.1 1 (by decide)
  rw [t159]
  simp (disch := omega) only [am_ob_p (kk_187 S), rr_187_40 S, am_gr_p, am_ix_p (kk_219 S), am_i_ix, Int.reduceToNat, e0]
theorem isin_is1 (X : am_X) (sort : Nat) (w : Int) : isin w 0 (X 0 sort 0 - 1) = is1 X sort w := by
  unfold isin is1
  by_cases g : 0 ≤ w ∧ w < X 0 sort 0
  · rw [if_pos g, if_pos (by omega)]
  · rw [if_neg g, if_neg (by omega)]
theorem m_isPerson {L : Nat} {q : am_Pq} {M : am_M} (S : am_Sh L q M) {X : am_X} (HX : mH M X) (B : hB X) {w : Int} (h0 : -2147483648 ≤ w) (h1 : w < 2147483648) (d : Nat) :
    am_cl 163 (d + 1) [.ref 187, .int (am_i w)] M = some (some (.int (am_i (is1 X 2 w))), M) := by
  have b0 := nX_bd B (sort := 2) (by decide)
  rw [t163]
  simp (disch := omega) only [am_ob_p (kk_187 S), m_personMany S HX, am_bI_p, am_i_sub, am_i2l, m_isIn, isin_is1, am_tr_b (is1_01 X 2 w)]
theorem m_isFilm {L : Nat} {q : am_Pq} {M : am_M} (S : am_Sh L q M) {X : am_X} (HX : mH M X) (B : hB X) {w : Int} (h0 : -2147483648 ≤ w) (h1 : w < 2147483648) (d : Nat) :
    am_cl 162 (d + 1) [.ref 187, .int (am_i w)] M = some (some (.int (am_i (is1 X 1 w))), M) := by
  have b0 := nX_bd B (sort := 1) (by decide)
  rw [t162]
  simp (disch := omega) only [am_ob_p (kk_187 S), m_filmMany S HX, am_bI_p, am_i_sub, am_i2l, m_isIn, isin_is1, am_tr_b (is1_01 X 1 w)]
theorem m_isKind {L : Nat} {q : am_Pq} {M : am_M} (S : am_Sh L q M) {X : am_X} (HX : mH M X) (B : hB X) {w : Int} (h0 : -2147483648 ≤ w) (h1 : w < 2147483648) (d : Nat) :
    am_cl 161 (d + 1) [.ref 187, .int (am_i w)] M = some (some (.int (am_i (is1 X 0 w))), M) := by
  have b0 := nX_bd B (sort := 0) (by decide)
  rw [t161]
  simp (disch := omega) only [am_ob_p (kk_187 S), m_kindMany S HX, am_bI_p, am_i_sub, am_i2l, m_isIn, isin_is1, am_tr_b (is1_01 X 0 w)]
