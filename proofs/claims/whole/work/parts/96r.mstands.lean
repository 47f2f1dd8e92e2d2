/-! The reference: the rest of what a house sets. -/
theorem m_cp57 {L : Nat} {q : am_Pq} (d : Nat) : ∀ (m i : Nat), i + m = 24 → ∀ {M}, am_Sh L q M → ∃ M', am_ev 156 (d + 1) 57 [.ref 187, .int (am_i (i : Int))] [] M = am_ev 156 (d + 1) 86 [.ref 187, .int (am_i 0)] [] M' ∧ am_Sh L q M' ∧ fr (fun b k => b = 220 ∧ 24 + i ≤ k ∧ k < 48) M M' ∧ ∀ k, i ≤ k → k < 24 → am_L M' 220 (24 + k) = am_L M 220 k := by
  intro m
  induction m with
  | zero =>
    intro i hi M S
    refine ⟨M, ?_, S, fr_rfl _ _, fun k h1 h2 => by omega⟩
    rw [t156_57, am_br_ge (by omega) (by omega) (by omega) (by omega), if_pos (by omega)]
  | succ m ih =>
    intro i hi M S
    obtain ⟨M', r, S', f', e'⟩ := ih (i + 1) (by omega) (M := am_sL M 220 (24 + i) (am_L M 220 i)) (S.sL _ _ _)
    refine ⟨M', ?_, S', fr_tr (fr_sL (by omega)) (fr_mono f' (fun b k h => by omega)), fun k h1 h2 => ?_⟩
    · rw [t156_57, am_br_ge (by omega) (by omega) (by omega) (by omega), if_neg (by omega), am_ob_p (kk_187 S), rr_187_41 S, am_gr_p, am_ob_p (kk_187 S), am_gr_p, am_ix_p (kk_220 S) (by omega) (by omega) (by omega), am_i_add, show (24 : Int) + (i : Int) = ((24 + i : Nat) : Int) by omega, am_iw_p (kk_220 S) (by omega) (by omega) (by omega) (by omega), am_i_ix (by omega) (by omega), am_i_ix (by omega) (by omega), Int.toNat_natCast, Int.toNat_natCast, am_lt, am_i_add]
      exact r
    · by_cases g : k = i
      · subst g
        rw [(f' _ _ (by omega)).2, am_L_same]
      · rw [e' k (by omega) h2, am_L_ne2 (by omega)]
theorem m_press2 {L : Nat} {q : am_Pq} (d : Nat) {np : Nat} (hnp : np ≤ 5) {P : Int} (hP : 0 ≤ P ∧ P < 32) : ∀ (m i : Nat), i + m = np → ∀ {M}, am_Sh L q M → am_I M 219 5 = am_i (np : Int) → ∃ M', am_ev 168 (d + 1) 2 [.ref 187, .int (am_i P), .int (am_i (i : Int))] [] M = some (none, M') ∧ am_Sh L q M' ∧ fr (fun b k => b = 229 ∧ k % 2 = 0 ∧ 86 + 2 * i ≤ k ∧ k < 86 + 2 * np) M M' ∧ ∀ p, i ≤ p → p < np → am_I M' 229 (86 + 2 * p) = am_i (P / ((2 ^ p : Nat) : Int) % 2) := by
  intro m
  induction m with
  | zero =>
    intro i hi M S e5
    refine ⟨M, ?_, S, fr_rfl _ _, fun k h1 h2 => by omega⟩
    rw [t168_2, am_ob_p (kk_187 S), t160, am_ob_p (kk_187 S), rr_187_40 S, am_gr_p, am_ix_p (kk_219 S) (by omega) (by omega) (by omega), am_i_ix (by omega) (by omega), show Int.toNat 5 = 5 from rfl, e5, am_bI_p, am_br_ge (by omega) (by omega) (by omega) (by omega), if_pos (by omega)]
  | succ m ih =>
    intro i hi M S e5
    obtain ⟨M', r, S', f', e'⟩ := ih (i + 1) (by omega) (M := am_sI M 229 (86 + 2 * i) (am_i (P / ((2 ^ i : Nat) : Int) % 2))) (S.sI _ _ _) (by rw [am_I_ne1 (by omega)]; exact e5)
    refine ⟨M', ?_, S', fr_tr (fr_sI (by omega)) (fr_mono f' (fun b k h => by omega)), fun k h1 h2 => ?_⟩
    · rw [t168_2, am_ob_p (kk_187 S), t160, am_ob_p (kk_187 S), rr_187_40 S, am_gr_p, am_ix_p (kk_219 S) (by omega) (by omega) (by omega), am_i_ix (by omega) (by omega), show Int.toNat 5 = 5 from rfl, e5, am_bI_p, am_br_ge (by omega) (by omega) (by omega) (by omega), if_neg (by omega), am_ob_p (kk_187 S), rr_187_54 S, am_gr_p, am_i_mul, am_i_add, show (86 : Int) + 2 * (i : Int) = ((86 + 2 * i : Nat) : Int) by omega, am_iw_p (kk_229 S) (by omega) (by omega) (by omega) (by omega), am_i_ix (by omega) (by omega), Int.toNat_natCast, bit_p hP.1 hP.2 (show i < 5 by omega), am_lt, am_i_add]
      exact r
    · by_cases g : k = i
      · subst g
        rw [(f' _ _ (by omega)).1, am_I_same]
      · exact e' k (by omega) h2
theorem m_cp261 {L : Nat} {q : am_Pq} (d : Nat) : ∀ (m i : Nat), i + m = 257 → ∀ {M}, am_Sh L q M → ∃ M', am_ev 156 (d + 1) 261 [.ref 187, .int (am_i (i : Int))] [] M = am_ev 156 (d + 1) 261 [.ref 187, .int (am_i 257)] [] M' ∧ am_Sh L q M' ∧ fr (fun b k => b = 229 ∧ i ≤ k) M M' ∧ ∀ k, i ≤ k → k < 257 → am_I M' 229 k = am_i 0 := by
  intro m
  induction m with
  | zero =>
    intro i hi M S
    have : i = 257 := by omega
    subst this
    exact ⟨M, rfl, S, fr_rfl _ _, fun k h1 h2 => by omega⟩
  | succ m ih =>
    intro i hi M S
    obtain ⟨M', r, S', f', e'⟩ := ih (i + 1) (by omega) (M := am_sI M 229 i (am_i 0)) (S.sI _ _ _)
    refine ⟨M', ?_, S', fr_tr (fr_sI (by omega)) (fr_mono f' (fun b k h => by omega)), fun k h1 h2 => ?_⟩
    · rw [t156_261, am_br_ge (by omega) (by omega) (by omega) (by omega), if_neg (by omega), am_ob_p (kk_187 S), rr_187_54 S, am_gr_p, am_iw_p (kk_229 S) (by omega) (by omega) (by omega) (by omega), am_i_ix (by omega) (by omega), Int.toNat_natCast, am_lt, am_i_add]
      exact r
    · by_cases g : k = i
      · subst g
        rw [(f' _ _ (by omega)).1, am_I_same]
      · exact e' k (by omega) h2
