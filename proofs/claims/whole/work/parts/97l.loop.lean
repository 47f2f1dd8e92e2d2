/-! The law's loop. -/
theorem Call_S {L : Nat} {xs : Nat → Int32} {M : am_M} {W : am_Wo} {b : Nat} (R : Rel L xs M W b) : am_K M 0 = (2, L) ∧ am_Sh L R.choose M := ⟨R.choose_spec.2.1.1 0, R.choose_spec.2.1⟩
theorem Call_K {L : Nat} {xs : Nat → Int32} {M M1 : am_M} {W : am_Wo} {b : Nat} (R : Rel L xs M W b) {m d : Nat} {a : List Value} {v : Option Value} (r : am_cl m d a M = some (v, M1)) : am_K M1 0 = (2, L) ∧ am_K M1 187 = (1, 6) ∧ ∀ k, am_I M1 0 k = am_I M 0 k := by
  obtain ⟨K0, S⟩ := Call_S R
  obtain ⟨h1, h2, h3⟩ := am_keep_cl r ⟨by rw [S.2.2.1]; decide, by rw [K0]⟩
  exact ⟨(h2 0 (by rw [S.2.2.1]; decide)).trans K0, (h2 187 (by rw [S.2.2.1]; decide)).trans (kk_187 S), h3⟩
theorem Call_I {L : Nat} {xs : Nat → Int32} {M : am_M} {W : am_Wo} {b : Nat} (R : Rel L xs M W b) {mc mm : Nat} {a : List Value} (hc : Call L xs mc mm a M b) (hn : nlr (am_tb mc) = true) : ∃ z M1 M2 W', am_cl mc 599 (.ref 2 :: a) M = some (some (.int z), M1) ∧ am_cl mm 599 (.ref 187 :: a) M1 = some (some (.int z), M2) ∧ Rel L xs M2 W' (b + 600) ∧ am_K M1 0 = (2, L) ∧ am_K M1 187 = (1, 6) ∧ ∀ k, am_I M1 0 k = am_I M 0 k := by
  obtain ⟨v, M1, M2, W', r1, r2, R2, hv⟩ := hc
  rcases hv with ⟨z, rfl⟩ | ⟨z, rfl⟩
  · exact ⟨z, M1, M2, W', r1, r2, R2, Call_K R r1⟩
  · exact absurd rfl (am_noL_cl hn r1 z)
theorem Call_L {L : Nat} {xs : Nat → Int32} {M : am_M} {W : am_Wo} {b : Nat} (R : Rel L xs M W b) {mc mm : Nat} {a : List Value} (hc : Call L xs mc mm a M b) (hn : nir (am_tb mc) = true) : ∃ z M1 M2 W', am_cl mc 599 (.ref 2 :: a) M = some (some (.long z), M1) ∧ am_cl mm 599 (.ref 187 :: a) M1 = some (some (.long z), M2) ∧ Rel L xs M2 W' (b + 600) ∧ am_K M1 0 = (2, L) ∧ am_K M1 187 = (1, 6) ∧ ∀ k, am_I M1 0 k = am_I M 0 k := by
  obtain ⟨v, M1, M2, W', r1, r2, R2, hv⟩ := hc
  rcases hv with ⟨z, rfl⟩ | ⟨z, rfl⟩
  · exact absurd rfl (am_noI_cl hn r1 z)
  · exact ⟨z, M1, M2, W', r1, r2, R2, Call_K R r1⟩
theorem am_br_rf (x : Int32) (t f : am_Q) : am_br .eq x x t f = t := if_pos rfl
theorem cmp_rf (x : Int64) (t f : am_Q) : am_br .eq (lg_cmp x x) (am_i 0) t f = t := by
  obtain ⟨z, hz, h1, h2⟩ : ∃ z, x = am_l z ∧ -9223372036854775808 ≤ z ∧ z < 9223372036854775808 := ⟨x.toInt, (Int64.ofInt_toInt x).symm, Int64.le_toInt x, Int64.toInt_lt x⟩
  subst hz
  rw [cmp_eq h1 h2 h1 h2, if_pos rfl]
/-- the law goes on from the i-th call to its end, and answers 1 -/
def Lw (i : Nat) (M : am_M) : Prop := ∃ M', am_ev 0 (599 + 1) 18 [.ref 0, .ref 2, .ref 187, .int (am_i (6 * (i : Int)))] [] M = some (some (.int (am_i 1)), M') ∧ am_n M' = 261 ∧ am_s M' = 26728
set_option maxHeartbeats 16000000 in
theorem law_step {L : Nat} {xs : Nat → Int32} {M : am_M} {W : am_Wo} {b i : Nat} (R : Rel L xs M W b) (hb : b < 1000000000) (hi : 6 * i + 6 ≤ L) (hL : L ≤ 3072) (next : ∀ M' W', Rel L xs M' W' b ∨ Rel L xs M' W' (b + 600) → Lw (i + 1) M') : Lw i M := by
  obtain ⟨K0, S⟩ := Call_S R
  have h0 := t0_18 599 M 0 2 187 (am_i (6 * (i : Int)))
  obtain ⟨z, hz, hz1, hz2⟩ := int_of ((am_I M 0 (am_i (6 * (i : Int))).toNatClampNeg) &&& (am_i 63))
  rw [K0, am_if_t (p := 2 ≤ (2, L).1 ∧ (2, L).1 ≤ 6) ⟨show 2 ≤ 2 by decide, show 2 ≤ 6 by decide⟩, show nI ((2, L) : Nat × Nat).2 = am_i (L : Int) from am_i_nI L, am_i_sub, am_br_gt (by omega) (by omega) (by omega) (by omega), if_neg (by omega), am_ix_p K0 (by omega) (by omega) (by omega), hz] at h0
  have fin : ∀ {M2 : am_M} {W2 : am_Wo}, Rel L xs M2 W2 b ∨ Rel L xs M2 W2 (b + 600) → am_ev 0 (599 + 1) 18 [.ref 0, .ref 2, .ref 187, .int (am_i (6 * (i : Int)))] [] M = am_ev 0 (599 + 1) 18 [.ref 0, .ref 2, .ref 187, .int (am_i (6 * (i : Int) + 6))] [] M2 → Lw i M := by
    intro M2 W2 R2 e
    obtain ⟨M3, q1, q2, q3⟩ := next M2 W2 R2
    rw [show 6 * ((i + 1 : Nat) : Int) = 6 * (i : Int) + 6 by omega] at q1
    exact ⟨M3, e.trans q1, q2, q3⟩
  by_cases g0 : z = 0
  · rw [am_si_t g0] at h0
    obtain ⟨y, M1, M2, W2, r1, r2, R2, k0, k6, ke⟩ := Call_I R (call_feed R (am_I M 0 (am_i (6 * (i : Int) + 1)).toNatClampNeg) (am_I M 0 (am_i (6 * (i : Int) + 2)).toNatClampNeg) (am_I M 0 (am_i (6 * (i : Int) + 3)).toNatClampNeg) (am_I M 0 (am_i (6 * (i : Int) + 4)).toNatClampNeg) (am_I M 0 (am_i (6 * (i : Int) + 5)).toNatClampNeg)) (by decide +kernel)
    simp only [am_i_add] at h0
    rw [am_ix_p K0 (by omega) (by omega) (by omega), am_ix_p K0 (by omega) (by omega) (by omega), am_ix_p K0 (by omega) (by omega) (by omega), am_ix_p K0 (by omega) (by omega) (by omega), am_ix_p K0 (by omega) (by omega) (by omega), am_ob_p (kk_2 S), r1, am_bI_p, am_ix_p k0 (by omega) (by omega) (by omega), am_ix_p k0 (by omega) (by omega) (by omega), am_ix_p k0 (by omega) (by omega) (by omega), am_ix_p k0 (by omega) (by omega) (by omega), am_ix_p k0 (by omega) (by omega) (by omega), am_ob_p k6] at h0
    simp only [ke] at h0
    rw [r2, am_bI_p, am_br_rf] at h0
    exact fin (Or.inr R2) h0
  rw [am_si_f (by omega)] at h0
  by_cases g1 : z = 1
  · rw [am_si_t g1] at h0
    obtain ⟨y, M1, M2, W2, r1, r2, R2, k0, k6, ke⟩ := Call_I R (call_end R (am_I M 0 (am_i (6 * (i : Int) + 1)).toNatClampNeg)) (by decide +kernel)
    simp only [am_i_add] at h0
    rw [am_ix_p K0 (by omega) (by omega) (by omega), am_ob_p (kk_2 S), r1, am_bI_p, am_ix_p k0 (by omega) (by omega) (by omega), am_ob_p k6] at h0
    simp only [ke] at h0
    rw [r2, am_bI_p, am_br_rf] at h0
    exact fin (Or.inr R2) h0
  rw [am_si_f (by omega)] at h0
  by_cases g2 : z = 2
  · rw [am_si_t g2] at h0
    obtain ⟨y, M1, M2, W2, r1, r2, R2, k0, k6, ke⟩ := Call_I R (call_house R ) (by decide +kernel)
    rw [am_ob_p (kk_2 S), r1, am_bI_p, am_ob_p k6] at h0
    rw [r2, am_bI_p, am_br_rf] at h0
    rw [am_i_add] at h0
    exact fin (Or.inr R2) h0
  rw [am_si_f (by omega)] at h0
  by_cases g3 : z = 3
  · rw [am_si_t g3] at h0
    obtain ⟨y, M1, M2, W2, r1, r2, R2, k0, k6, ke⟩ := Call_I R (call_fault R (am_I M 0 (am_i (6 * (i : Int) + 1)).toNatClampNeg)) (by decide +kernel)
    simp only [am_i_add] at h0
    rw [am_ix_p K0 (by omega) (by omega) (by omega), am_ob_p (kk_2 S), r1, am_bI_p, am_ix_p k0 (by omega) (by omega) (by omega), am_ob_p k6] at h0
    simp only [ke] at h0
    rw [r2, am_bI_p, am_br_rf] at h0
    exact fin (Or.inr R2) h0
  rw [am_si_f (by omega)] at h0
  by_cases g4 : z = 4
  · rw [am_si_t g4] at h0
    obtain ⟨y, M1, M2, W2, r1, r2, R2, k0, k6, ke⟩ := Call_I R (call_has R hb (am_I M 0 (am_i (6 * (i : Int) + 1)).toNatClampNeg)) (by decide +kernel)
    simp only [am_i_add] at h0
    rw [am_ix_p K0 (by omega) (by omega) (by omega), am_ob_p (kk_2 S), r1, am_bI_p, am_ix_p k0 (by omega) (by omega) (by omega), am_ob_p k6] at h0
    simp only [ke] at h0
    rw [r2, am_bI_p, am_br_rf] at h0
    exact fin (Or.inr R2) h0
  rw [am_si_f (by omega)] at h0
  by_cases g5 : z = 5
  · rw [am_si_t g5] at h0
    obtain ⟨y, M1, M2, W2, r1, r2, R2, k0, k6, ke⟩ := Call_I R (call_letter R (am_I M 0 (am_i (6 * (i : Int) + 1)).toNatClampNeg) (am_I M 0 (am_i (6 * (i : Int) + 2)).toNatClampNeg) (am_I M 0 (am_i (6 * (i : Int) + 3)).toNatClampNeg)) (by decide +kernel)
    simp only [am_i_add] at h0
    rw [am_ix_p K0 (by omega) (by omega) (by omega), am_ix_p K0 (by omega) (by omega) (by omega), am_ix_p K0 (by omega) (by omega) (by omega), am_ob_p (kk_2 S), r1, am_bI_p, am_ix_p k0 (by omega) (by omega) (by omega), am_ix_p k0 (by omega) (by omega) (by omega), am_ix_p k0 (by omega) (by omega) (by omega), am_ob_p k6] at h0
    simp only [ke] at h0
    rw [r2, am_bI_p, am_br_rf] at h0
    exact fin (Or.inr R2) h0
  rw [am_si_f (by omega)] at h0
  by_cases g6 : z = 6
  · rw [am_si_t g6] at h0
    obtain ⟨y, M1, M2, W2, r1, r2, R2, k0, k6, ke⟩ := Call_I R (call_film R (am_I M 0 (am_i (6 * (i : Int) + 1)).toNatClampNeg) (am_I M 0 (am_i (6 * (i : Int) + 2)).toNatClampNeg)) (by decide +kernel)
    simp only [am_i_add] at h0
    rw [am_ix_p K0 (by omega) (by omega) (by omega), am_ix_p K0 (by omega) (by omega) (by omega), am_ob_p (kk_2 S), r1, am_bI_p, am_ix_p k0 (by omega) (by omega) (by omega), am_ix_p k0 (by omega) (by omega) (by omega), am_ob_p k6] at h0
    simp only [ke] at h0
    rw [r2, am_bI_p, am_br_rf] at h0
    exact fin (Or.inr R2) h0
  rw [am_si_f (by omega)] at h0
  by_cases g7 : z = 7
  · rw [am_si_t g7] at h0
    obtain ⟨y, M1, M2, W2, r1, r2, R2, k0, k6, ke⟩ := Call_I R (call_person R (am_I M 0 (am_i (6 * (i : Int) + 1)).toNatClampNeg) (am_I M 0 (am_i (6 * (i : Int) + 2)).toNatClampNeg)) (by decide +kernel)
    simp only [am_i_add] at h0
    rw [am_ix_p K0 (by omega) (by omega) (by omega), am_ix_p K0 (by omega) (by omega) (by omega), am_ob_p (kk_2 S), r1, am_bI_p, am_ix_p k0 (by omega) (by omega) (by omega), am_ix_p k0 (by omega) (by omega) (by omega), am_ob_p k6] at h0
    simp only [ke] at h0
    rw [r2, am_bI_p, am_br_rf] at h0
    exact fin (Or.inr R2) h0
  rw [am_si_f (by omega)] at h0
  by_cases g8 : z = 8
  · rw [am_si_t g8] at h0
    obtain ⟨y, M1, M2, W2, r1, r2, R2, k0, k6, ke⟩ := Call_I R (call_taste R (am_I M 0 (am_i (6 * (i : Int) + 1)).toNatClampNeg) (am_I M 0 (am_i (6 * (i : Int) + 2)).toNatClampNeg)) (by decide +kernel)
    simp only [am_i_add] at h0
    rw [am_ix_p K0 (by omega) (by omega) (by omega), am_ix_p K0 (by omega) (by omega) (by omega), am_ob_p (kk_2 S), r1, am_bI_p, am_ix_p k0 (by omega) (by omega) (by omega), am_ix_p k0 (by omega) (by omega) (by omega), am_ob_p k6] at h0
    simp only [ke] at h0
    rw [r2, am_bI_p, am_br_rf] at h0
    exact fin (Or.inr R2) h0
  rw [am_si_f (by omega)] at h0
  by_cases g9 : z = 9
  · rw [am_si_t g9] at h0
    obtain ⟨y, M1, M2, W2, r1, r2, R2, k0, k6, ke⟩ := Call_I R (call_seen R (am_I M 0 (am_i (6 * (i : Int) + 1)).toNatClampNeg) (am_I M 0 (am_i (6 * (i : Int) + 2)).toNatClampNeg)) (by decide +kernel)
    simp only [am_i_add] at h0
    rw [am_ix_p K0 (by omega) (by omega) (by omega), am_ix_p K0 (by omega) (by omega) (by omega), am_ob_p (kk_2 S), r1, am_bI_p, am_ix_p k0 (by omega) (by omega) (by omega), am_ix_p k0 (by omega) (by omega) (by omega), am_ob_p k6] at h0
    simp only [ke] at h0
    rw [r2, am_bI_p, am_br_rf] at h0
    exact fin (Or.inr R2) h0
  rw [am_si_f (by omega)] at h0
  by_cases g10 : z = 10
  · rw [am_si_t g10] at h0
    obtain ⟨y, M1, M2, W2, r1, r2, R2, k0, k6, ke⟩ := Call_I R (call_suggest R (am_I M 0 (am_i (6 * (i : Int) + 1)).toNatClampNeg)) (by decide +kernel)
    simp only [am_i_add] at h0
    rw [am_ix_p K0 (by omega) (by omega) (by omega), am_ob_p (kk_2 S), r1, am_bI_p, am_ix_p k0 (by omega) (by omega) (by omega), am_ob_p k6] at h0
    simp only [ke] at h0
    rw [r2, am_bI_p, am_br_rf] at h0
    exact fin (Or.inr R2) h0
  rw [am_si_f (by omega)] at h0
  by_cases g11 : z = 11
  · rw [am_si_t g11] at h0
    obtain ⟨y, M1, M2, W2, r1, r2, R2, k0, k6, ke⟩ := Call_I R (call_worth R (am_I M 0 (am_i (6 * (i : Int) + 1)).toNatClampNeg) (am_I M 0 (am_i (6 * (i : Int) + 2)).toNatClampNeg)) (by decide +kernel)
    simp only [am_i_add] at h0
    rw [am_ix_p K0 (by omega) (by omega) (by omega), am_ix_p K0 (by omega) (by omega) (by omega), am_ob_p (kk_2 S), r1, am_bI_p, am_ix_p k0 (by omega) (by omega) (by omega), am_ix_p k0 (by omega) (by omega) (by omega), am_ob_p k6] at h0
    simp only [ke] at h0
    rw [r2, am_bI_p, am_br_rf] at h0
    exact fin (Or.inr R2) h0
  rw [am_si_f (by omega)] at h0
  by_cases g12 : z = 12
  · rw [am_si_t g12] at h0
    obtain ⟨y, M1, M2, W2, r1, r2, R2, k0, k6, ke⟩ := Call_I R (call_kept R hb (am_I M 0 (am_i (6 * (i : Int) + 1)).toNatClampNeg) (am_I M 0 (am_i (6 * (i : Int) + 2)).toNatClampNeg)) (by decide +kernel)
    simp only [am_i_add] at h0
    rw [am_ix_p K0 (by omega) (by omega) (by omega), am_ix_p K0 (by omega) (by omega) (by omega), am_ob_p (kk_2 S), r1, am_bI_p, am_ix_p k0 (by omega) (by omega) (by omega), am_ix_p k0 (by omega) (by omega) (by omega), am_ob_p k6] at h0
    simp only [ke] at h0
    rw [r2, am_bI_p, am_br_rf] at h0
    exact fin (Or.inr R2) h0
  rw [am_si_f (by omega)] at h0
  by_cases g13 : z = 13
  · rw [am_si_t g13] at h0
    obtain ⟨y, M1, M2, W2, r1, r2, R2, k0, k6, ke⟩ := Call_L R (call_pleased R hb (am_I M 0 (am_i (6 * (i : Int) + 1)).toNatClampNeg) (am_I M 0 (am_i (6 * (i : Int) + 2)).toNatClampNeg)) (by decide +kernel)
    simp only [am_i_add] at h0
    rw [am_ix_p K0 (by omega) (by omega) (by omega), am_ix_p K0 (by omega) (by omega) (by omega), am_ob_p (kk_2 S), r1, am_bL_p, am_ix_p k0 (by omega) (by omega) (by omega), am_ix_p k0 (by omega) (by omega) (by omega), am_ob_p k6] at h0
    simp only [ke] at h0
    rw [r2, am_bL_p, cmp_rf] at h0
    exact fin (Or.inr R2) h0
  rw [am_si_f (by omega)] at h0
  by_cases g14 : z = 14
  · rw [am_si_t g14] at h0
    obtain ⟨y, M1, M2, W2, r1, r2, R2, k0, k6, ke⟩ := Call_I R (call_refused R hb (am_I M 0 (am_i (6 * (i : Int) + 1)).toNatClampNeg) (am_I M 0 (am_i (6 * (i : Int) + 2)).toNatClampNeg)) (by decide +kernel)
    simp only [am_i_add] at h0
    rw [am_ix_p K0 (by omega) (by omega) (by omega), am_ix_p K0 (by omega) (by omega) (by omega), am_ob_p (kk_2 S), r1, am_bI_p, am_ix_p k0 (by omega) (by omega) (by omega), am_ix_p k0 (by omega) (by omega) (by omega), am_ob_p k6] at h0
    simp only [ke] at h0
    rw [r2, am_bI_p, am_br_rf] at h0
    exact fin (Or.inr R2) h0
  rw [am_si_f (by omega)] at h0
  by_cases g15 : z = 15
  · rw [am_si_t g15] at h0
    obtain ⟨y, M1, M2, W2, r1, r2, R2, k0, k6, ke⟩ := Call_L R (call_pressing R hb (am_I M 0 (am_i (6 * (i : Int) + 1)).toNatClampNeg) (am_I M 0 (am_i (6 * (i : Int) + 2)).toNatClampNeg)) (by decide +kernel)
    simp only [am_i_add] at h0
    rw [am_ix_p K0 (by omega) (by omega) (by omega), am_ix_p K0 (by omega) (by omega) (by omega), am_ob_p (kk_2 S), r1, am_bL_p, am_ix_p k0 (by omega) (by omega) (by omega), am_ix_p k0 (by omega) (by omega) (by omega), am_ob_p k6] at h0
    simp only [ke] at h0
    rw [r2, am_bL_p, cmp_rf] at h0
    exact fin (Or.inr R2) h0
  rw [am_si_f (by omega)] at h0
  by_cases g16 : z = 16
  · rw [am_si_t g16] at h0
    obtain ⟨y, M1, M2, W2, r1, r2, R2, k0, k6, ke⟩ := Call_I R (call_rest R hb (am_I M 0 (am_i (6 * (i : Int) + 1)).toNatClampNeg)) (by decide +kernel)
    simp only [am_i_add] at h0
    rw [am_ix_p K0 (by omega) (by omega) (by omega), am_ob_p (kk_2 S), r1, am_bI_p, am_ix_p k0 (by omega) (by omega) (by omega), am_ob_p k6] at h0
    simp only [ke] at h0
    rw [r2, am_bI_p, am_br_rf] at h0
    exact fin (Or.inr R2) h0
  rw [am_si_f (by omega)] at h0
  by_cases g17 : z = 17
  · rw [am_si_t g17] at h0
    obtain ⟨y, M1, M2, W2, r1, r2, R2, k0, k6, ke⟩ := Call_I R (call_gone R hb (am_I M 0 (am_i (6 * (i : Int) + 1)).toNatClampNeg) (am_I M 0 (am_i (6 * (i : Int) + 2)).toNatClampNeg)) (by decide +kernel)
    simp only [am_i_add] at h0
    rw [am_ix_p K0 (by omega) (by omega) (by omega), am_ix_p K0 (by omega) (by omega) (by omega), am_ob_p (kk_2 S), r1, am_bI_p, am_ix_p k0 (by omega) (by omega) (by omega), am_ix_p k0 (by omega) (by omega) (by omega), am_ob_p k6] at h0
    simp only [ke] at h0
    rw [r2, am_bI_p, am_br_rf] at h0
    exact fin (Or.inr R2) h0
  rw [am_si_f (by omega)] at h0
  by_cases g18 : z = 18
  · rw [am_si_t g18] at h0
    obtain ⟨y, M1, M2, W2, r1, r2, R2, k0, k6, ke⟩ := Call_I R (call_sow R hb (am_I M 0 (am_i (6 * (i : Int) + 1)).toNatClampNeg) (am_I M 0 (am_i (6 * (i : Int) + 2)).toNatClampNeg)) (by decide +kernel)
    simp only [am_i_add] at h0
    rw [am_ix_p K0 (by omega) (by omega) (by omega), am_ix_p K0 (by omega) (by omega) (by omega), am_ob_p (kk_2 S), r1, am_bI_p, am_ix_p k0 (by omega) (by omega) (by omega), am_ix_p k0 (by omega) (by omega) (by omega), am_ob_p k6] at h0
    simp only [ke] at h0
    rw [r2, am_bI_p, am_br_rf] at h0
    exact fin (Or.inr R2) h0
  rw [am_si_f (by omega)] at h0
  by_cases g19 : z = 19
  · rw [am_si_t g19] at h0
    obtain ⟨y, M1, M2, W2, r1, r2, R2, k0, k6, ke⟩ := Call_I R (call_who R (am_I M 0 (am_i (6 * (i : Int) + 1)).toNatClampNeg) (am_I M 0 (am_i (6 * (i : Int) + 2)).toNatClampNeg) (am_I M 0 (am_i (6 * (i : Int) + 3)).toNatClampNeg)) (by decide +kernel)
    simp only [am_i_add] at h0
    rw [am_ix_p K0 (by omega) (by omega) (by omega), am_ix_p K0 (by omega) (by omega) (by omega), am_ix_p K0 (by omega) (by omega) (by omega), am_ob_p (kk_2 S), r1, am_bI_p, am_ix_p k0 (by omega) (by omega) (by omega), am_ix_p k0 (by omega) (by omega) (by omega), am_ix_p k0 (by omega) (by omega) (by omega), am_ob_p k6] at h0
    simp only [ke] at h0
    rw [r2, am_bI_p, am_br_rf] at h0
    exact fin (Or.inr R2) h0
  rw [am_si_f (by omega)] at h0
  by_cases g20 : z = 20
  · rw [am_si_t g20] at h0
    obtain ⟨y, M1, M2, W2, r1, r2, R2, k0, k6, ke⟩ := Call_I R (call_sofa R (am_I M 0 (am_i (6 * (i : Int) + 1)).toNatClampNeg) (am_I M 0 (am_i (6 * (i : Int) + 2)).toNatClampNeg)) (by decide +kernel)
    simp only [am_i_add] at h0
    rw [am_ix_p K0 (by omega) (by omega) (by omega), am_ix_p K0 (by omega) (by omega) (by omega), am_ob_p (kk_2 S), r1, am_bI_p, am_ix_p k0 (by omega) (by omega) (by omega), am_ix_p k0 (by omega) (by omega) (by omega), am_ob_p k6] at h0
    simp only [ke] at h0
    rw [r2, am_bI_p, am_br_rf] at h0
    exact fin (Or.inr R2) h0
  rw [am_si_f (by omega)] at h0
  by_cases g21 : z = 21
  · rw [am_si_t g21] at h0
    obtain ⟨y, M1, M2, W2, r1, r2, R2, k0, k6, ke⟩ := Call_I R (call_share R (am_I M 0 (am_i (6 * (i : Int) + 1)).toNatClampNeg)) (by decide +kernel)
    simp only [am_i_add] at h0
    rw [am_ix_p K0 (by omega) (by omega) (by omega), am_ob_p (kk_2 S), r1, am_bI_p, am_ix_p k0 (by omega) (by omega) (by omega), am_ob_p k6] at h0
    simp only [ke] at h0
    rw [r2, am_bI_p, am_br_rf] at h0
    exact fin (Or.inr R2) h0
  rw [am_si_f (by omega)] at h0
  by_cases g22 : z = 22
  · rw [am_si_t g22] at h0
    obtain ⟨y, M1, M2, W2, r1, r2, R2, k0, k6, ke⟩ := Call_I R (call_tell R ) (by decide +kernel)
    rw [am_ob_p (kk_2 S), r1, am_bI_p, am_ob_p k6] at h0
    rw [r2, am_bI_p, am_br_rf] at h0
    rw [am_i_add] at h0
    exact fin (Or.inr R2) h0
  rw [am_si_f (by omega)] at h0
  by_cases g23 : z = 23
  · rw [am_si_t g23] at h0
    obtain ⟨y, M1, M2, W2, r1, r2, R2, k0, k6, ke⟩ := Call_I R (call_pressed R hb (am_I M 0 (am_i (6 * (i : Int) + 1)).toNatClampNeg)) (by decide +kernel)
    simp only [am_i_add] at h0
    rw [am_ix_p K0 (by omega) (by omega) (by omega), am_ob_p (kk_2 S), r1, am_bI_p, am_ix_p k0 (by omega) (by omega) (by omega), am_ob_p k6] at h0
    simp only [ke] at h0
    rw [r2, am_bI_p, am_br_rf] at h0
    exact fin (Or.inr R2) h0
  rw [am_si_f (by omega)] at h0
  by_cases g24 : z = 24
  · rw [am_si_t g24] at h0
    obtain ⟨y, M1, M2, W2, r1, r2, R2, k0, k6, ke⟩ := Call_I R (call_press R (am_I M 0 (am_i (6 * (i : Int) + 1)).toNatClampNeg) (am_I M 0 (am_i (6 * (i : Int) + 2)).toNatClampNeg)) (by decide +kernel)
    simp only [am_i_add] at h0
    rw [am_ix_p K0 (by omega) (by omega) (by omega), am_ix_p K0 (by omega) (by omega) (by omega), am_ob_p (kk_2 S), r1, am_bI_p, am_ix_p k0 (by omega) (by omega) (by omega), am_ix_p k0 (by omega) (by omega) (by omega), am_ob_p k6] at h0
    simp only [ke] at h0
    rw [r2, am_bI_p, am_br_rf] at h0
    exact fin (Or.inr R2) h0
  rw [am_si_f (by omega)] at h0
  by_cases g25 : z = 25
  · rw [am_si_t g25] at h0
    obtain ⟨y, M1, M2, W2, r1, r2, R2, k0, k6, ke⟩ := Call_L R (call_show R hb (am_I M 0 (am_i (6 * (i : Int) + 1)).toNatClampNeg) (am_I M 0 (am_i (6 * (i : Int) + 2)).toNatClampNeg)) (by decide +kernel)
    simp only [am_i_add] at h0
    rw [am_ix_p K0 (by omega) (by omega) (by omega), am_ix_p K0 (by omega) (by omega) (by omega), am_ob_p (kk_2 S), r1, am_bL_p, am_ix_p k0 (by omega) (by omega) (by omega), am_ix_p k0 (by omega) (by omega) (by omega), am_ob_p k6] at h0
    simp only [ke] at h0
    rw [r2, am_bL_p, cmp_rf] at h0
    exact fin (Or.inr R2) h0
  rw [am_si_f (by omega)] at h0
  by_cases g26 : z = 26
  · rw [am_si_t g26] at h0
    obtain ⟨y, M1, M2, W2, r1, r2, R2, k0, k6, ke⟩ := Call_I R (call_hours R hb (am_I M 0 (am_i (6 * (i : Int) + 1)).toNatClampNeg)) (by decide +kernel)
    simp only [am_i_add] at h0
    rw [am_ix_p K0 (by omega) (by omega) (by omega), am_ob_p (kk_2 S), r1, am_bI_p, am_ix_p k0 (by omega) (by omega) (by omega), am_ob_p k6] at h0
    simp only [ke] at h0
    rw [r2, am_bI_p, am_br_rf] at h0
    exact fin (Or.inr R2) h0
  rw [am_si_f (by omega)] at h0
  by_cases g27 : z = 27
  · rw [am_si_t g27] at h0
    obtain ⟨y, M1, M2, W2, r1, r2, R2, k0, k6, ke⟩ := Call_I R (call_chance R hb (am_I M 0 (am_i (6 * (i : Int) + 1)).toNatClampNeg)) (by decide +kernel)
    simp only [am_i_add] at h0
    rw [am_ix_p K0 (by omega) (by omega) (by omega), am_ob_p (kk_2 S), r1, am_bI_p, am_ix_p k0 (by omega) (by omega) (by omega), am_ob_p k6] at h0
    simp only [ke] at h0
    rw [r2, am_bI_p, am_br_rf] at h0
    exact fin (Or.inr R2) h0
  rw [am_si_f (by omega)] at h0
  by_cases g28 : z = 28
  · rw [am_si_t g28] at h0
    obtain ⟨y, M1, M2, W2, r1, r2, R2, k0, k6, ke⟩ := Call_I R (call_undo R ) (by decide +kernel)
    rw [am_ob_p (kk_2 S), r1, am_bI_p, am_ob_p k6] at h0
    rw [r2, am_bI_p, am_br_rf] at h0
    rw [am_i_add] at h0
    exact fin (Or.inr R2) h0
  rw [am_si_f (by omega)] at h0
  by_cases g29 : z = 29
  · rw [am_si_t g29] at h0
    obtain ⟨y, M1, M2, W2, r1, r2, R2, k0, k6, ke⟩ := Call_I R (call_seed R (am_I M 0 (am_i (6 * (i : Int) + 1)).toNatClampNeg)) (by decide +kernel)
    simp only [am_i_add] at h0
    rw [am_ix_p K0 (by omega) (by omega) (by omega), am_ob_p (kk_2 S), r1, am_bI_p, am_ix_p k0 (by omega) (by omega) (by omega), am_ob_p k6] at h0
    simp only [ke] at h0
    rw [r2, am_bI_p, am_br_rf] at h0
    exact fin (Or.inr R2) h0
  rw [am_si_f (by omega)] at h0
  by_cases g30 : z = 30
  · rw [am_si_t g30] at h0
    obtain ⟨y, M1, M2, W2, r1, r2, R2, k0, k6, ke⟩ := Call_L R (call_ask R (am_I M 0 (am_i (6 * (i : Int) + 1)).toNatClampNeg)) (by decide +kernel)
    simp only [am_i_add] at h0
    rw [am_ix_p K0 (by omega) (by omega) (by omega), am_ob_p (kk_2 S), r1, am_bL_p, am_ix_p k0 (by omega) (by omega) (by omega), am_ob_p k6] at h0
    simp only [ke] at h0
    rw [r2, am_bL_p, cmp_rf] at h0
    exact fin (Or.inr R2) h0
  rw [am_si_f (by omega)] at h0
  by_cases g31 : z = 31
  · rw [am_si_t g31] at h0
    obtain ⟨y, M1, M2, W2, r1, r2, R2, k0, k6, ke⟩ := Call_I R (call_image R ) (by decide +kernel)
    rw [am_ob_p (kk_2 S), r1, am_bI_p, am_ob_p k6] at h0
    rw [r2, am_bI_p, am_br_rf] at h0
    rw [am_i_add] at h0
    exact fin (Or.inr R2) h0
  rw [am_si_f (by omega)] at h0
  by_cases g32 : z = 32
  · rw [am_si_t g32] at h0
    obtain ⟨y, M1, M2, W2, r1, r2, R2, k0, k6, ke⟩ := Call_I R (call_octet R (am_I M 0 (am_i (6 * (i : Int) + 1)).toNatClampNeg)) (by decide +kernel)
    simp only [am_i_add] at h0
    rw [am_ix_p K0 (by omega) (by omega) (by omega), am_ob_p (kk_2 S), r1, am_bI_p, am_ix_p k0 (by omega) (by omega) (by omega), am_ob_p k6] at h0
    simp only [ke] at h0
    rw [r2, am_bI_p, am_br_rf] at h0
    exact fin (Or.inr R2) h0
  rw [am_si_f (by omega)] at h0
  by_cases g33 : z = 33
  · rw [am_si_t g33] at h0
    obtain ⟨y, M1, M2, W2, r1, r2, R2, k0, k6, ke⟩ := Call_I R (call_on R ) (by decide +kernel)
    rw [am_ob_p (kk_2 S), r1, am_bI_p, am_ob_p k6] at h0
    rw [r2, am_bI_p, am_br_rf] at h0
    rw [am_i_add] at h0
    exact fin (Or.inr R2) h0
  rw [am_si_f (by omega)] at h0
  by_cases g34 : z = 34
  · rw [am_si_t g34] at h0
    obtain ⟨y, M1, M2, W2, r1, r2, R2, k0, k6, ke⟩ := Call_I R (call_status R (am_I M 0 (am_i (6 * (i : Int) + 1)).toNatClampNeg)) (by decide +kernel)
    simp only [am_i_add] at h0
    rw [am_ix_p K0 (by omega) (by omega) (by omega), am_ob_p (kk_2 S), r1, am_bI_p, am_ix_p k0 (by omega) (by omega) (by omega), am_ob_p k6] at h0
    simp only [ke] at h0
    rw [r2, am_bI_p, am_br_rf] at h0
    exact fin (Or.inr R2) h0
  rw [am_si_f (by omega)] at h0
  rw [am_i_add] at h0
  exact fin (Or.inl R) h0
theorem law_all {L : Nat} {xs : Nat → Int32} (hL : L ≤ 3072) : ∀ (m i : Nat), L < 6 * i + 6 * m + 6 → i ≤ 513 → ∀ {M : am_M} {W : am_Wo} {b : Nat}, Rel L xs M W b → b ≤ 600 * i → Lw i M := by
  intro m
  induction m with
  | zero =>
    intro i hm hi M W b R hb
    obtain ⟨K0, S⟩ := Call_S R
    have h0 := t0_18 599 M 0 2 187 (am_i (6 * (i : Int)))
    rw [K0, am_if_t (p := 2 ≤ (2, L).1 ∧ (2, L).1 ≤ 6) ⟨show 2 ≤ 2 by decide, show 2 ≤ 6 by decide⟩, show nI ((2, L) : Nat × Nat).2 = am_i (L : Int) from am_i_nI L, am_i_sub, am_br_gt (by omega) (by omega) (by omega) (by omega), if_pos (by omega), am_tr_1] at h0
    exact ⟨M, h0, S.2.2.1, S.2.2.2⟩
  | succ m ih =>
    intro i hm hi M W b R hb
    by_cases g : 6 * i + 6 ≤ L
    · exact law_step R (by omega) g hL (fun M' W' R' => by
        rcases R' with R' | R'
        · exact ih (i + 1) (by omega) (by omega) R' (by omega)
        · exact ih (i + 1) (by omega) (by omega) R' (by omega))
    · obtain ⟨K0, S⟩ := Call_S R
      have h0 := t0_18 599 M 0 2 187 (am_i (6 * (i : Int)))
      rw [K0, am_if_t (p := 2 ≤ (2, L).1 ∧ (2, L).1 ≤ 6) ⟨show 2 ≤ 2 by decide, show 2 ≤ 6 by decide⟩, show nI ((2, L) : Nat × Nat).2 = am_i (L : Int) from am_i_nI L, am_i_sub, am_br_gt (by omega) (by omega) (by omega) (by omega), if_pos (by omega), am_tr_1] at h0
      exact ⟨M, h0, S.2.2.1, S.2.2.2⟩
/-- the whole run of the law -/
theorem law_run (L : Nat) (xs : Nat → Int32) (hL : L ≤ 3072) : ∃ M', am_ev 0 600 0 [.ref 0, .null, .null, .null] [] ((fun r => if r = 0 then (2, L) else (0, 0), fun r j => if r = 0 then xs j else 0, fun _ _ => 0, fun _ _ => none, 2, 0) : am_M) = some (some (.int 1), M') ∧ am_n M' ≤ 600002 ∧ am_s M' ≤ 7302250 := by
  rw [cv_M0]
  have h0 := t0 599 (den L xs cvS0) 0
  have r5 : am_cl 1 599 [.ref 2] (den L xs (cv_nw cvS0 (1, 5) 16)) = some (none, den L xs cvS2) := cv_cl (fnd := cv_f5) (fun m pc e h => h) (a := [(3, 2)]) (fun v hv => by
    rw [List.mem_singleton] at hv
    subst hv
    exact Or.inr rfl) cv_c5
  have r6 : am_cl 126 599 [.ref 187] (den L xs (cv_nw cvS2 (1, 6) 103)) = some (none, den L xs cvS4) := cv_cl (fnd := cv_f6) cv_f6_ok (a := [(3, 187)]) (fun v hv => by
    rw [List.mem_singleton] at hv
    subst hv
    exact Or.inr rfl) cv_c6
  have n0 : am_n (den L xs cvS0) = 2 := rfl
  have n2 : am_n (den L xs cvS2) = 187 := show cvS2.1.length = 187 by decide +kernel
  rw [n0, den_nw (show cv_ok cvS0 from ⟨by decide, by decide, by decide, by decide⟩), am_lt, r5, am_bV_p, n2, den_nw (show cv_ok cvS2 from ⟨by decide +kernel, by decide +kernel, by decide +kernel, by decide +kernel⟩), am_lt, r6, am_bV_p] at h0
  obtain ⟨M', q1, q2, q3⟩ := law_all hL 513 0 (by omega) (by omega) (cv_Rel L xs) (Nat.le_refl 0)
  exact ⟨M', h0.trans q1, by omega, by omega⟩
