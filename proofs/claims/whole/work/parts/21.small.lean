/-! Reckoning. -/
theorem cmp_lt {a b : Int} (h1 : -9223372036854775808 ≤ a) (h2 : a < 9223372036854775808) (h3 : -9223372036854775808 ≤ b) (h4 : b < 9223372036854775808) (t f : am_Q) : am_br .lt (lg_cmp (am_l a) (am_l b)) (am_i 0) t f = if a < b then t else f := by
  unfold lg_cmp
  have e1 : (am_l a > am_l b) = (b < a) := am_l_lt h3 h4 h1 h2
  have e2 : (am_l a = am_l b) = (a = b) := am_l_eq h1 h2 h3 h4
  simp only [e1, e2]
  by_cases g1 : b < a
  · rw [if_pos g1, if_neg (by omega)]; rfl
  · rw [if_neg g1]
    by_cases g2 : a = b
    · rw [if_pos g2, if_neg (by omega)]; rfl
    · rw [if_neg g2, if_pos (by omega)]; rfl
theorem cmp_gt {a b : Int} (h1 : -9223372036854775808 ≤ a) (h2 : a < 9223372036854775808) (h3 : -9223372036854775808 ≤ b) (h4 : b < 9223372036854775808) (t f : am_Q) : am_br .gt (lg_cmp (am_l a) (am_l b)) (am_i 0) t f = if b < a then t else f := by
  unfold lg_cmp
  have e1 : (am_l a > am_l b) = (b < a) := am_l_lt h3 h4 h1 h2
  have e2 : (am_l a = am_l b) = (a = b) := am_l_eq h1 h2 h3 h4
  simp only [e1, e2]
  by_cases g1 : b < a
  · rw [if_pos g1, if_pos g1]; rfl
  · rw [if_neg g1, if_neg g1]
    by_cases g2 : a = b
    · rw [if_pos g2]; rfl
    · rw [if_neg g2]; rfl
theorem cmp_ge {a b : Int} (h1 : -9223372036854775808 ≤ a) (h2 : a < 9223372036854775808) (h3 : -9223372036854775808 ≤ b) (h4 : b < 9223372036854775808) (t f : am_Q) : am_br .ge (lg_cmp (am_l a) (am_l b)) (am_i 0) t f = if b ≤ a then t else f := by
  unfold lg_cmp
  have e1 : (am_l a > am_l b) = (b < a) := am_l_lt h3 h4 h1 h2
  have e2 : (am_l a = am_l b) = (a = b) := am_l_eq h1 h2 h3 h4
  simp only [e1, e2]
  by_cases g1 : b < a
  · rw [if_pos g1, if_pos (by omega)]; rfl
  · rw [if_neg g1]
    by_cases g2 : a = b
    · rw [if_pos g2, if_pos (by omega)]; rfl
    · rw [if_neg g2, if_neg (by omega)]; rfl
theorem cmp_le {a b : Int} (h1 : -9223372036854775808 ≤ a) (h2 : a < 9223372036854775808) (h3 : -9223372036854775808 ≤ b) (h4 : b < 9223372036854775808) (t f : am_Q) : am_br .le (lg_cmp (am_l a) (am_l b)) (am_i 0) t f = if a ≤ b then t else f := by
  unfold lg_cmp
  have e1 : (am_l a > am_l b) = (b < a) := am_l_lt h3 h4 h1 h2
  have e2 : (am_l a = am_l b) = (a = b) := am_l_eq h1 h2 h3 h4
  simp only [e1, e2]
  by_cases g1 : b < a
  · rw [if_pos g1, if_neg (by omega)]; rfl
  · rw [if_neg g1]
    by_cases g2 : a = b
    · rw [if_pos g2, if_pos (by omega)]; rfl
    · rw [if_neg g2, if_pos (by omega)]; rfl
theorem cmp_ne {a b : Int} (h1 : -9223372036854775808 ≤ a) (h2 : a < 9223372036854775808) (h3 : -9223372036854775808 ≤ b) (h4 : b < 9223372036854775808) (t f : am_Q) : am_br .ne (lg_cmp (am_l a) (am_l b)) (am_i 0) t f = if a = b then f else t := by
  unfold lg_cmp
  have e1 : (am_l a > am_l b) = (b < a) := am_l_lt h3 h4 h1 h2
  have e2 : (am_l a = am_l b) = (a = b) := am_l_eq h1 h2 h3 h4
  simp only [e1, e2]
  by_cases g1 : b < a
  · rw [if_pos g1, if_neg (by omega)]; rfl
  · rw [if_neg g1]
    by_cases g2 : a = b
    · rw [if_pos g2, if_pos g2]; rfl
    · rw [if_neg g2, if_neg g2]; rfl
theorem cmp_eq {a b : Int} (h1 : -9223372036854775808 ≤ a) (h2 : a < 9223372036854775808) (h3 : -9223372036854775808 ≤ b) (h4 : b < 9223372036854775808) (t f : am_Q) : am_br .eq (lg_cmp (am_l a) (am_l b)) (am_i 0) t f = if a = b then t else f := by
  unfold lg_cmp
  have e1 : (am_l a > am_l b) = (b < a) := am_l_lt h3 h4 h1 h2
  have e2 : (am_l a = am_l b) = (a = b) := am_l_eq h1 h2 h3 h4
  simp only [e1, e2]
  by_cases g1 : b < a
  · rw [if_pos g1, if_neg (by omega)]; rfl
  · rw [if_neg g1]
    by_cases g2 : a = b
    · rw [if_pos g2, if_pos g2]; rfl
    · rw [if_neg g2, if_neg g2]; rfl
theorem j_maxI {M : am_M} {a b : Int} (h1 : -2147483648 ≤ a) (h2 : a < 2147483648) (h3 : -2147483648 ≤ b) (h4 : b < 2147483648) (d : Nat) : am_cl 274 d [.int (am_i a), .int (am_i b)] M = some (some (.int (am_i (if a < b then b else a))), M) := by
  rw [t274, am_br_lt h1 h2 h3 h4]
  split <;> rfl
theorem j_minI {M : am_M} {a b : Int} (h1 : -2147483648 ≤ a) (h2 : a < 2147483648) (h3 : -2147483648 ≤ b) (h4 : b < 2147483648) (d : Nat) : am_cl 276 d [.int (am_i a), .int (am_i b)] M = some (some (.int (am_i (if b < a then b else a))), M) := by
  rw [t276, am_br_gt h1 h2 h3 h4]
  split <;> rfl
theorem j_maxL {M : am_M} {a b : Int} (h1 : -9223372036854775808 ≤ a) (h2 : a < 9223372036854775808) (h3 : -9223372036854775808 ≤ b) (h4 : b < 9223372036854775808) (d : Nat) : am_cl 275 d [.long (am_l a), .long (am_l b)] M = some (some (.long (am_l (if a < b then b else a))), M) := by
  rw [t275, cmp_lt h1 h2 h3 h4]
  split <;> rfl
theorem j_minL {M : am_M} {a b : Int} (h1 : -9223372036854775808 ≤ a) (h2 : a < 9223372036854775808) (h3 : -9223372036854775808 ≤ b) (h4 : b < 9223372036854775808) (d : Nat) : am_cl 277 d [.long (am_l a), .long (am_l b)] M = some (some (.long (am_l (if b < a then b else a))), M) := by
  rw [t277, cmp_gt h1 h2 h3 h4]
  split <;> rfl
theorem c_held {M : am_M} {r : Nat} {v : Int} (h1 : -2147483648 ≤ v) (h2 : v < 2147483648) (d : Nat) : am_cl 83 (d + 1) [.ref r, .int (am_i v)] M = some (some (.int (am_i (held v))), M) := by
  rw [t83]
  have h3 : -2147483648 ≤ (if v < 999 then v else (999 : Int)) ∧ (if v < 999 then v else (999 : Int)) < 2147483648 := by split <;> omega
  rw [j_minI (by omega) (by omega) h1 h2, am_bI_p, j_maxI (by omega) (by omega) h3.1 h3.2, am_bI_p]
  have e : (if (0 : Int) < (if v < 999 then v else 999) then (if v < 999 then v else 999) else 0) = held v := by
    unfold held
    split <;> split <;> (try split) <;> omega
  rw [e]
theorem am_l_ltl {a b : Int} (h1 : -9223372036854775808 ≤ a) (h2 : a < 9223372036854775808) (h3 : -9223372036854775808 ≤ b) (h4 : b < 9223372036854775808) : (am_l a = am_l b) ↔ (a = b) := by rw [am_l_eq h1 h2 h3 h4]
theorem m_cut {M : am_M} {v : Int} (h1 : -9223372036854775808 ≤ v) (h2 : v < 9223372036854775808) (d : Nat) : am_cl 176 d [.long (am_l v)] M = some (some (.int (am_i (held v))), M) := by
  rw [t176]
  simp (disch := omega) only [cmp_lt, cmp_gt, cmp_ge, cmp_le, am_l2i]
  unfold held
  by_cases g1 : v < 0
  · first | rw [if_pos g1, if_pos g1] | rw [if_neg (by omega), if_pos g1]
  · by_cases g2 : 999 < v
    · first | rw [if_neg g1, if_pos g2, if_neg g1, if_pos g2] | rw [if_pos (by omega), if_neg (by omega), if_neg g1, if_pos g2]
    · first | rw [if_neg g1, if_neg g2, if_neg g1, if_neg g2] | rw [if_pos (by omega), if_pos (by omega), if_neg g1, if_neg g2]
/-- is v in a .. b -/
def isin (v a b : Int) : Int := if a ≤ v ∧ v ≤ b then 1 else 0
theorem m_isIn {M : am_M} {v a b : Int} (h1 : -9223372036854775808 ≤ v) (h2 : v < 9223372036854775808) (h3 : -9223372036854775808 ≤ a) (h4 : a < 9223372036854775808) (h5 : -9223372036854775808 ≤ b) (h6 : b < 9223372036854775808) (d : Nat) :
    am_cl 127 d [.long (am_l v), .long (am_l a), .long (am_l b)] M = some (some (.int (am_i (isin v a b))), M) := by
  rw [t127]
  simp (disch := omega) only [cmp_lt, cmp_gt, am_tr_0, am_tr_1]
  unfold isin
  by_cases g1 : v < a
  · rw [if_pos g1, if_neg (by omega)]
  · rw [if_neg g1]
    by_cases g2 : b < v
    · rw [if_pos g2, if_neg (by omega)]
    · rw [if_neg g2, if_pos (by omega)]
theorem isin_01 (v a b : Int) : isin v a b = 0 ∨ isin v a b = 1 := by unfold isin; split <;> simp
/-! The class's and the reference's small methods. -/
theorem c_worthOf {L : Nat} {q : am_Pq} {M : am_M} {h : Nat} (S : am_Sh L q M) (hh : isH h) {X : am_X} (HX : cH M h X) (B : hB X) {p f : Nat} (hp : p < nP X) (hf : f < nF X) (d : Nat) :
    am_cl 88 d [.ref h, .int (am_i p), .int (am_i f)] M = some (some (.int (am_i (worth X p f))), M) := by
  obtain ⟨hkk, hK6⟩ := hB_K B
  have hP5 := (hB_P B).2
  have hF8 := (hB_F B).2
  have e0 := HX.1 0 (by decide)
  have key : ∀ n k : Nat, k + n = nK X → am_ev 88 d 5 [.ref h, .int (am_i p), .int (am_i f), .int (am_i (sm (fun k => X 3 f k * X 6 p k) k)), .int (am_i k)] [] M = some (some (.int (am_i (worth X p f))), M) := by
    intro n
    induction n with
    | zero =>
      intro k hk
      rw [t88_5]
      simp (disch := omega) only [am_ob_p (H_k0 S hh), H_r0_0 S hh, am_gr_p, am_ix_p (H_k1 S hh), am_i_ix, Int.toNat_zero, e0, am_br_ge]
      rw [if_pos (by omega)]
      have : k = nK X := by omega
      rw [this]
      rfl
    | succ n ih =>
      intro k hk
      have hk6 : k < 6 := by omega
      have hw := HX.2.2.1 f hf k hk6
      have hl := HX.2.2.2.2.2.1 p hp k hk6
      rw [t88_5]
      simp (disch := omega) only [am_ob_p (H_k0 S hh), H_r0_0 S hh, H_r0_3 S hh, H_r0_6 S hh, am_gr_p, am_ix_p (H_k1 S hh), am_i_ix, Int.toNat_zero, Int.toNat_natCast, e0, am_br_ge, am_iq_p (H_k7 S hh), am_iq_p (H_k18 S hh), H_r7 S hh, H_r18 S hh, am_ix_p (H_q7 S hh (show f < 8 by omega)), am_ix_p (H_q18 S hh (show p < 5 by omega)), hw, hl, am_lt, am_i_mul, am_i_add]
      rw [if_neg (by omega)]
      exact ih (k + 1) (by omega)
  rw [t88]
  exact key (nK X) 0 (by omega)
theorem m_kindMany {L : Nat} {q : am_Pq} {M : am_M} (S : am_Sh L q M) {X : am_X} (HX : mH M X) (d : Nat) :
    am_cl 158 d [.ref 187] M = some (some (.int (am_i (X 0 0 0))), M) := by
  have e0 := HX.1 0 (by decide)
  rw [t158]
  simp (disch := omega) only [am_ob_p (kk_187 S), rr_187_40 S, am_gr_p, am_ix_p (kk_219 S), am_i_ix, Int.reduceToNat, Nat.add_zero, e0]
theorem m_personMany {L : Nat} {q : am_Pq} {M : am_M} (S : am_Sh L q M) {X : am_X} (HX : mH M X) (d : Nat) :
    am_cl 160 d [.ref 187] M = some (some (.int (am_i (X 0 2 0))), M) := by
  have e0 := HX.1 2 (by decide)
  rw [t160]
  simp (disch := omega) only [am_ob_p (kk_187 S), rr_187_40 S, am_gr_p, am_ix_p (kk_219 S), am_i_ix, Int.reduceToNat, e0]
theorem m_filmMany {L : Nat} {q : am_Pq} {M : am_M} (S : am_Sh L q M) {X : am_X} (HX : mH M X) (d : Nat) :
    am_cl 159 d [.ref 187] M = some (some (.int (am_i (X 0 1 0))), M) := by
  have e0 := HX.1 1 (by decide)
  rw [t159]
  simp (disch := omega) only [am_ob_p (kk_187 S), rr_187_40 S, am_gr_p, am_ix_p (kk_219 S), am_i_ix, Int.reduceToNat, e0]
theorem m_weightOf {L : Nat} {q : am_Pq} {M : am_M} (S : am_Sh L q M) {X : am_X} (HX : mH M X) (B : hB X) {f k : Nat} (hf : f < nF X) (hk : k < 6) (d : Nat) :
    am_cl 165 d [.ref 187, .int (am_i f), .int (am_i k)] M = some (some (.int (am_i (X 3 f k))), M) := by
  have hF8 := (hB_F B).2
  have e0 := HX.2.2.1 f hf k hk
  have e1 : ((48 : Int) + 6 * (f : Int) + (k : Int)).toNat = 48 + 6 * f + k := by omega
  rw [t165]
  simp (disch := omega) only [am_ob_p (kk_187 S), rr_187_43 S, am_gr_p, am_i_mul, am_i_add, am_ix_p (kk_222 S), am_i_ix, e1, e0]
theorem m_likesOf {L : Nat} {q : am_Pq} {M : am_M} (S : am_Sh L q M) {X : am_X} (HX : mH M X) (B : hB X) {p k : Nat} (hp : p < nP X) (hk : k < 6) (d : Nat) :
    am_cl 166 d [.ref 187, .int (am_i p), .int (am_i k)] M = some (some (.int (am_i (X 6 p k))), M) := by
  have hP5 := (hB_P B).2
  have e0 := HX.2.2.2.2.2.1 p hp k hk
  have e1 : ((30 : Int) + 6 * (p : Int) + (k : Int)).toNat = 30 + 6 * p + k := by omega
  rw [t166]
  simp (disch := omega) only [am_ob_p (kk_187 S), rr_187_45 S, am_gr_p, am_i_mul, am_i_add, am_ix_p (kk_224 S), am_i_ix, e1, e0]
theorem m_partsOf {L : Nat} {q : am_Pq} {M : am_M} (S : am_Sh L q M) {X : am_X} (HX : mH M X) (B : hB X) {f : Nat} (hf : f < nF X) (d : Nat) :
    am_cl 164 d [.ref 187, .int (am_i f)] M = some (some (.int (am_i (X 2 f 0))), M) := by
  have hF8 := (hB_F B).2
  have e0 := HX.2.1 f hf
  have e1 : ((8 : Int) + (f : Int)).toNat = 8 + f := by omega
  rw [t164]
  simp (disch := omega) only [am_ob_p (kk_187 S), rr_187_42 S, am_gr_p, am_i_mul, am_i_add, am_ix_p (kk_221 S), am_i_ix, e1, e0]
theorem m_worthOf {L : Nat} {q : am_Pq} {M : am_M} (S : am_Sh L q M) {X : am_X} (HX : mH M X) (B : hB X) {p f : Nat} (hp : p < nP X) (hf : f < nF X) (d : Nat) :
    am_cl 175 (d + 1) [.ref 187, .int (am_i p), .int (am_i f)] M = some (some (.int (am_i (worth X p f))), M) := by
  obtain ⟨hkk, hK6⟩ := hB_K B
  have key : ∀ n k : Nat, k + n = nK X → am_ev 175 (d + 1) 5 [.ref 187, .int (am_i p), .int (am_i f), .int (am_i (sm (fun k => X 3 f k * X 6 p k) k)), .int (am_i k)] [] M = some (some (.int (am_i (worth X p f))), M) := by
    intro n
    induction n with
    | zero =>
      intro k hk
      rw [t175_5]
      simp (disch := omega) only [am_ob_p (kk_187 S), m_kindMany S HX d, am_bI_p, am_br_ge]
      rw [if_pos (by omega)]
      have : k = nK X := by omega
      rw [this]
      rfl
    | succ n ih =>
      intro k hk
      have hk6 : k < 6 := by omega
      rw [t175_5]
      simp (disch := omega) only [am_ob_p (kk_187 S), m_kindMany S HX d, am_bI_p, am_br_ge, m_weightOf S HX B hf hk6 d, m_likesOf S HX B hp hk6 d, am_i_mul, am_i_add]
      rw [if_neg (by omega)]
      exact ih (k + 1) (by omega)
  rw [t175]
  exact key (nK X) 0 (by omega)
theorem bit_0 : ∀ P : Fin 32, ∀ p : Fin 5, ((am_i (P.val : Int)) >>> ((am_i (p.val : Int)) &&& 31)) &&& am_i 1 = am_i ((P.val : Int) / ((2 ^ p.val : Nat) : Int) % 2) := by decide +kernel
theorem bit_p {P : Int} (h0 : 0 ≤ P) (h1 : P < 32) {p : Nat} (hp : p < 5) : ((am_i P) >>> ((am_i p) &&& 31)) &&& am_i 1 = am_i (P / ((2 ^ p : Nat) : Int) % 2) := by
  have h := bit_0 ⟨P.toNat, by omega⟩ ⟨p, hp⟩
  have e : ((P.toNat : Nat) : Int) = P := by omega
  simp only [e] at h
  exact h
theorem c_profileOf {L : Nat} {q : am_Pq} {M : am_M} {a : Nat} (S : am_Sh L q M) (ha : am_K M a = (1, 0)) {A : am_A} (HA : cA M a A) (B : 0 ≤ A 1 0 0 ∧ A 1 0 0 < 32) {p : Nat} (hp : p < 5) (d : Nat) :
    am_cl 67 d [.ref a, .int (am_i p)] M = some (some (.int (am_i (prof A p))), M) := by
  have e1 := HA.2.1
  have e2 := bit_p B.1 B.2 hp
  have e3 : A 1 0 0 / ((2 ^ p : Nat) : Int) % 2 = prs A p := rfl
  have h01 := prs_01 A p
  rw [t67]
  simp (disch := omega) only [am_ob_p ha, e1, e2, e3, am_br_ne, am_i_add]
  unfold prof
  by_cases h : prs A p = 1
  · rw [if_pos h, if_pos h]; rfl
  · rw [if_neg h, if_neg h]; rfl
theorem m_doesPress {L : Nat} {q : am_Pq} {M : am_M} (S : am_Sh L q M) {A : am_A} (HA : mA M A) {p : Nat} (hp : p < 5) (d : Nat) :
    am_cl 167 d [.ref 187, .int (am_i p)] M = some (some (.int (am_i (prs A p))), M) := by
  have e1 := HA.2.2.2.2.1 p hp
  have e2 : ((86 : Int) + 2 * (p : Int)).toNat = 86 + 2 * p := by omega
  have h01 := prs_01 A p
  rw [t167]
  simp (disch := omega) only [am_ob_p (kk_187 S), rr_187_54 S, am_gr_p, am_i_mul, am_i_add, am_ix_p (kk_229 S), am_i_ix, e2, e1, am_br_ne, am_tr_0, am_tr_1]
  rcases h01 with h | h
  · rw [if_neg (by omega), h]
  · rw [if_pos h, h]
theorem m_profileOf {L : Nat} {q : am_Pq} {M : am_M} (S : am_Sh L q M) {A : am_A} (HA : mA M A) {p : Nat} (hp : p < 5) (d : Nat) :
    am_cl 170 (d + 1) [.ref 187, .int (am_i p)] M = some (some (.int (am_i (prof A p))), M) := by
  have h01 := prs_01 A p
  rw [t170]
  simp (disch := omega) only [am_ob_p (kk_187 S), m_doesPress S HA hp d, am_bI_p, am_br_eq, am_i_add]
  unfold prof
  rcases h01 with h | h
  · rw [if_pos h, if_neg (by omega)]; rfl
  · rw [if_neg (by omega), if_pos h]
    exact congrArg (fun v => some (some (Value.int (am_i v)), M)) (by omega)
theorem m_seenBy {L : Nat} {q0 : am_Pq} {M : am_M} (S : am_Sh L q0 M) {A : am_A} (HA : mA M A) {q f : Nat} (hq : q < 6) (hf : f < 8) (d : Nat) :
    am_cl 173 (d + 1) [.ref 187, .int (am_i q), .int (am_i f)] M = some (some (.int (am_i (A 3 q f))), M) := by
  have e1 := HA.2.2.2.1 q hq f hf
  have e2 : ((2 : Int) + 14 * (q : Int) + 6 + (f : Int)).toNat = 2 + 14 * q + 6 + f := by omega
  rw [t173]
  simp (disch := omega) only [am_ob_p (kk_187 S), rr_187_54 S, am_gr_p, t172, am_bI_p, am_i_mul, am_i_add, am_ix_p (kk_229 S), am_i_ix, e2, e1]
def score' (X : am_X) (A : am_A) (q f : Nat) (k : Nat) : Int := 1 + sm (fun k => X 3 f k * A 2 q k) k
theorem m_scoreOf {L : Nat} {q0 : am_Pq} {M : am_M} (S : am_Sh L q0 M) {X : am_X} {A : am_A} (HX : mH M X) (HA : mA M A) (B : hB X) {q f : Nat} (hq : q < 6) (hf : f < nF X) (d : Nat) :
    am_cl 174 (d + 1) [.ref 187, .int (am_i q), .int (am_i f)] M = some (some (.int (am_i (score X A q f))), M) := by
  obtain ⟨hkk, hK6⟩ := hB_K B
  have key : ∀ n k : Nat, k + n = nK X → am_ev 174 (d + 1) 5 [.ref 187, .int (am_i q), .int (am_i f), .int (am_i (score' X A q f k)), .int (am_i k)] [] M = some (some (.int (am_i (score X A q f))), M) := by
    intro n
    induction n with
    | zero =>
      intro k hk
      rw [t174_5]
      simp (disch := omega) only [am_ob_p (kk_187 S), m_kindMany S HX d, am_bI_p, am_br_ge]
      rw [if_pos (by omega)]
      have : k = nK X := by omega
      rw [this]
      rfl
    | succ n ih =>
      intro k hk
      have hk6 : k < 6 := by omega
      have e1 := HA.2.2.1 q hq k hk6
      have e2 : ((2 : Int) + 14 * (q : Int) + (k : Int)).toNat = 2 + 14 * q + k := by omega
      rw [t174_5]
      simp (disch := omega) only [am_ob_p (kk_187 S), m_kindMany S HX d, am_bI_p, am_br_ge, m_weightOf S HX B hf hk6 d, rr_187_54 S, am_gr_p, t171, am_i_mul, am_i_add, am_ix_p (kk_229 S), am_i_ix, e2, e1]
      rw [if_neg (by omega)]
      have e3 : score' X A q f k + X 3 f k * A 2 q k = score' X A q f (k + 1) := Int.add_assoc _ _ _
      rw [e3]
      exact ih (k + 1) (by omega)
  rw [t174]
  exact key (nK X) 0 (by omega)
theorem c_scoreOf {L : Nat} {q0 : am_Pq} {M : am_M} {c h : Nat} (S : am_Sh L q0 M) (hc : isC c) (hh : isH h) (hch : am_R M c 0 = some h) {X : am_X} {A : am_A} (HX : cH M h X) (HA : cA M (c + 1) A) (B : hB X) {q f : Nat} (hq : q < 6) (hf : f < nF X) (d : Nat) :
    am_cl 79 d [.ref c, .int (am_i q), .int (am_i f)] M = some (some (.int (am_i (score X A q f))), M) := by
  obtain ⟨hkk, hK6⟩ := hB_K B
  have hF8 := (hB_F B).2
  have e0 := HX.1 0 (by decide)
  have key : ∀ n k : Nat, k + n = nK X → am_ev 79 d 5 [.ref c, .int (am_i q), .int (am_i f), .int (am_i (score' X A q f k)), .int (am_i k)] [] M = some (some (.int (am_i (score X A q f))), M) := by
    intro n
    induction n with
    | zero =>
      intro k hk
      rw [t79_5]
      simp (disch := omega) only [am_ob_p (C_k0 S hc), hch, am_gr_p, am_ob_p (H_k0 S hh), H_r0_0 S hh, am_ix_p (H_k1 S hh), am_i_ix, Int.toNat_zero, e0, am_br_ge]
      rw [if_pos (by omega)]
      have : k = nK X := by omega
      rw [this]
      rfl
    | succ n ih =>
      intro k hk
      have hk6 : k < 6 := by omega
      have e1 := HA.2.2.1 q hq k hk6
      have e2 : ((q : Int) * 6 + (k : Int)).toNat = 6 * q + k := by omega
      have hw := HX.2.2.1 f hf k hk6
      rw [t79_5]
      simp (disch := omega) only [am_ob_p (C_k0 S hc), hch, am_gr_p, am_ob_p (H_k0 S hh), H_r0_0 S hh, H_r0_3 S hh, am_ix_p (H_k1 S hh), am_i_ix, Int.toNat_zero, Int.toNat_natCast, e0, am_br_ge, am_iq_p (H_k7 S hh), H_r7 S hh, am_ix_p (H_q7 S hh (show f < 8 by omega)), hw, C_r0_1 S hc, am_ob_p (C_k1 S hc), C_r1_2 S hc, am_i_mul, am_i_add, am_ix_p (C_k2 S hc), e2, e1, am_lt]
      rw [if_neg (by omega)]
      have e3 : score' X A q f k + X 3 f k * A 2 q k = score' X A q f (k + 1) := Int.add_assoc _ _ _
      rw [e3]
      exact ih (k + 1) (by omega)
  rw [t79]
  exact key (nK X) 0 (by omega)
theorem c_isFree {L : Nat} {q : am_Pq} {M : am_M} {h : Nat} (S : am_Sh L q M) (hh : isH h) {X : am_X} (HX : cH M h X) (B : hB X) {p : Nat} (hp : p < nP X) {hr : Int} (h0 : 0 ≤ hr) (h1 : hr ≤ 23) (d : Nat) :
    am_cl 87 d [.ref h, .int (am_i p), .int (am_i hr)] M = some (some (.int (am_i (fre X p hr))), M) := by
  have hP5 := (hB_P B).2
  have e4 := HX.2.2.2.1 p hp
  have e5 := HX.2.2.2.2.1 p hp
  have b4 := hB_h4 B hp
  have b5 := hB_h5 B hp
  rw [t87]
  simp (disch := omega) only [am_ob_p (H_k0 S hh), H_r0_4 S hh, H_r0_5 S hh, am_gr_p, am_ix_p (H_k16 S hh), am_ix_p (H_k17 S hh), am_i_ix, Int.toNat_natCast, e4, e5, am_br_lt, am_br_gt, am_tr_0, am_tr_1]
  unfold fre
  by_cases g1 : hr < X 4 p 0
  · rw [if_pos g1, if_neg (by omega)]
  · rw [if_neg g1]
    by_cases g2 : X 5 p 0 < hr
    · rw [if_pos g2, if_neg (by omega)]
    · rw [if_neg g2, if_pos (by omega)]
theorem m_isFree {L : Nat} {q : am_Pq} {M : am_M} (S : am_Sh L q M) {X : am_X} (HX : mH M X) (B : hB X) {p : Nat} (hp : p < nP X) {hr : Int} (h0 : 0 ≤ hr) (h1 : hr ≤ 23) (d : Nat) :
    am_cl 185 (d + 1) [.ref 187, .int (am_i p), .int (am_i hr)] M = some (some (.int (am_i (fre X p hr))), M) := by
  have hP5 := (hB_P B).2
  have e4 := HX.2.2.2.1 p hp
  have e5 := HX.2.2.2.2.1 p hp
  have b4 := hB_h4 B hp
  have b5 := hB_h5 B hp
  have c4 : ((10 : Int) + 2 * (p : Int)).toNat = 10 + 2 * p := by omega
  have c5 : ((11 : Int) + 2 * (p : Int)).toNat = 11 + 2 * p := by omega
  have hi := isin_01 hr (X 4 p 0) (X 5 p 0)
  rw [t185]
  simp (disch := omega) only [am_ob_p (kk_187 S), rr_187_44 S, am_gr_p, am_i_mul, am_i_add, am_ix_p (kk_223 S), am_i_ix, c4, c5, e4, e5, am_i2l, m_isIn, am_bI_p, am_tr_b hi]
  rfl
/-! Whether there is such a one. -/
def is1 (X : am_X) (sort : Nat) (w : Int) : Int := if 0 ≤ w ∧ w < X 0 sort 0 then 1 else 0
theorem is1_01 (X : am_X) (sort : Nat) (w : Int) : is1 X sort w = 0 ∨ is1 X sort w = 1 := by unfold is1; split <;> simp
theorem nX_bd {X : am_X} (B : hB X) {sort : Nat} (hs : sort < 3) : 0 ≤ X 0 sort 0 ∧ X 0 sort 0 ≤ 8 := by
  have h0 := B.1
  have h1 := B.2.1
  have h2 := B.2.2.1
  match sort, hs with
  | 0, _ => omega
  | 1, _ => omega
  | 2, _ => omega
  | n + 3, hs => omega
theorem c_isOne {L : Nat} {q : am_Pq} {M : am_M} (S : am_Sh L q M) (hh : isH q.2.2.1) {X : am_X} (HX : cH M q.2.2.1 X) (B : hB X) {sort : Nat} (hs : sort < 3) {w : Int} (h0 : -2147483648 ≤ w) (h1 : w < 2147483648) (d : Nat) :
    am_cl 40 d [.ref 2, .int (am_i sort), .int (am_i w)] M = some (some (.int (am_i (is1 X sort w))), M) := by
  have e0 := HX.1 sort hs
  have b0 := nX_bd B hs
  rw [t40]
  simp (disch := omega) only [am_ob_p (kk_2 S), rr_2_3 S, am_gr_p, am_ob_p (kk_63 S), rr_63_0 S, am_ob_p (H_k0 S hh), H_r0_0 S hh, am_ix_p (H_k1 S hh), am_i_ix, Int.toNat_natCast, e0, am_br_lt, am_br_ge, am_tr_0, am_tr_1]
  unfold is1
  by_cases g1 : w < 0
  · rw [if_pos g1, if_neg (by omega)]
  · rw [if_neg g1]
    by_cases g2 : X 0 sort 0 ≤ w
    · rw [if_pos g2, if_neg (by omega)]
    · rw [if_neg g2, if_pos (by omega)]
theorem isin_is1 (X : am_X) (sort : Nat) (w : Int) : isin w 0 (X 0 sort 0 - 1) = is1 X sort w := by
  unfold isin is1
  by_cases g : 0 ≤ w ∧ w < X 0 sort 0
  · rw [if_pos g, if_pos (by omega)]
  · rw [if_neg g, if_neg (by omega)]
theorem m_isPerson {L : Nat} {q : am_Pq} {M : am_M} (S : am_Sh L q M) {X : am_X} (HX : mH M X) (B : hB X) {w : Int} (h0 : -2147483648 ≤ w) (h1 : w < 2147483648) (d : Nat) :
    am_cl 163 (d + 1) [.ref 187, .int (am_i w)] M = some (some (.int (am_i (is1 X 2 w))), M) := by
  have b0 := nX_bd B (sort := 2) (by decide)
  rw [t163]
  simp (disch := omega) only [am_ob_p (kk_187 S), m_personMany S HX, am_bI_p, am_i_sub, am_i2l, m_isIn, isin_is1, am_tr_b (is1_01 X 2 w)]
theorem m_isFilm {L : Nat} {q : am_Pq} {M : am_M} (S : am_Sh L q M) {X : am_X} (HX : mH M X) (B : hB X) {w : Int} (h0 : -2147483648 ≤ w) (h1 : w < 2147483648) (d : Nat) :
    am_cl 162 (d + 1) [.ref 187, .int (am_i w)] M = some (some (.int (am_i (is1 X 1 w))), M) := by
  have b0 := nX_bd B (sort := 1) (by decide)
  rw [t162]
  simp (disch := omega) only [am_ob_p (kk_187 S), m_filmMany S HX, am_bI_p, am_i_sub, am_i2l, m_isIn, isin_is1, am_tr_b (is1_01 X 1 w)]
theorem m_isKind {L : Nat} {q : am_Pq} {M : am_M} (S : am_Sh L q M) {X : am_X} (HX : mH M X) (B : hB X) {w : Int} (h0 : -2147483648 ≤ w) (h1 : w < 2147483648) (d : Nat) :
    am_cl 161 (d + 1) [.ref 187, .int (am_i w)] M = some (some (.int (am_i (is1 X 0 w))), M) := by
  have b0 := nX_bd B (sort := 0) (by decide)
  rw [t161]
  simp (disch := omega) only [am_ob_p (kk_187 S), m_kindMany S HX, am_bI_p, am_i_sub, am_i2l, m_isIn, isin_is1, am_tr_b (is1_01 X 0 w)]
def pas (A : am_A) (n lo hi : Int) : Int := if lo ≤ n ∧ n ≤ hi ∧ n ≤ 23999 - A 0 0 0 then 1 else 0
theorem c_canPass {L : Nat} {q : am_Pq} {M : am_M} (S : am_Sh L q M) {X : am_X} {A : am_A} (HA : cA M 64 A) (B : aB X A) {n lo hi : Int} (h0 : -2147483648 ≤ n) (h1 : n < 2147483648) (h2 : 0 ≤ lo) (h3 : lo ≤ hi) (h4 : hi ≤ 100) (d : Nat) :
    am_cl 41 d [.ref 2, .int (am_i n), .int (am_i lo), .int (am_i hi)] M = some (some (.int (am_i (pas A n lo hi))), M) := by
  have e0 := HA.1
  have b0 := B.1
  rw [t41]
  simp (disch := omega) only [am_ob_p (kk_2 S), rr_2_3 S, am_gr_p, am_ob_p (kk_63 S), rr_63_1 S, am_ob_p (kk_64 S), e0, am_i_sub, am_br_lt, am_br_gt, am_tr_0, am_tr_1]
  unfold pas
  by_cases g1 : n < lo
  · rw [if_pos g1, if_neg (by omega)]
  · rw [if_neg g1]
    by_cases g2 : hi < n
    · rw [if_pos g2, if_neg (by omega)]
    · rw [if_neg g2]
      by_cases g3 : 23999 - A 0 0 0 < n
      · rw [if_pos g3, if_neg (by omega)]
      · rw [if_neg g3, if_pos (by omega)]
theorem m_isAhead {L : Nat} {q : am_Pq} {M : am_M} (S : am_Sh L q M) {X : am_X} {A : am_A} (HA : mA M A) (B : aB X A) {n lo hi : Int} (h0 : -2147483648 ≤ n) (h1 : n < 2147483648) (h2 : 0 ≤ lo) (h3 : lo ≤ hi) (h4 : hi ≤ 100) (d : Nat) :
    am_cl 191 (d + 1) [.ref 187, .int (am_i n), .int (am_i lo), .int (am_i hi)] M = some (some (.int (am_i (pas A n lo hi))), M) := by
  have e0 := HA.1
  have e1 := HA.2.1
  have b0 := B.1
  have hi01 := isin_01 n lo hi
  rw [t191]
  simp (disch := omega) only [am_i2l, m_isIn, am_bI_p, am_br_eq]
  unfold pas isin
  by_cases g : lo ≤ n ∧ n ≤ hi
  · simp only [if_pos g]
    rw [if_neg (by omega)]
    simp (disch := omega) only [am_ob_p (kk_187 S), rr_187_54 S, am_gr_p, am_ix_p (kk_229 S), am_i_ix, Int.toNat_zero, Int.toNat_one, e0, e1, am_i_mul, am_i_add, am_br_gt, am_tr_0, am_tr_1]
    by_cases g3 : 23999 - A 0 0 0 < n
    · rw [if_pos (by omega), if_neg (by omega)]
    · rw [if_neg (by omega), if_pos (by omega)]
  · simp only [if_neg g]
    rw [if_pos trivial, if_neg (by omega)]
    exact am_tr_0 _ _
