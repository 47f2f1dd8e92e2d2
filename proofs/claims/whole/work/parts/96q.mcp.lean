/-! The reference: the house told becomes the house. -/
theorem m_cp86 {L : Nat} {q : am_Pq} (d : Nat) : ∀ (m i : Nat), i + m = 8 → ∀ {M}, am_Sh L q M → ∃ M', am_ev 156 (d + 1) 86 [.ref 187, .int (am_i (i : Int))] [] M = am_ev 156 (d + 1) 115 [.ref 187, .int (am_i 0)] [] M' ∧ am_Sh L q M' ∧ fr (fun b k => b = 221 ∧ 8 + i ≤ k ∧ k < 16) M M' ∧ ∀ k, i ≤ k → k < 8 → am_I M' 221 (8 + k) = am_I M 221 k := by
  intro m
  induction m with
  | zero =>
    intro i hi M S
    refine ⟨M, ?_, S, fr_rfl _ _, fun k h1 h2 => by omega⟩
    rw [t156_86, am_br_ge (by omega) (by omega) (by omega) (by omega), if_pos (by omega)]
  | succ m ih =>
    intro i hi M S
    obtain ⟨M', r, S', f', e'⟩ := ih (i + 1) (by omega) (M := am_sI M 221 (8 + i) (am_I M 221 i)) (S.sI _ _ _)
    refine ⟨M', ?_, S', fr_tr (fr_sI (by omega)) (fr_mono f' (fun b k h => by omega)), fun k h1 h2 => ?_⟩
    · rw [t156_86, am_br_ge (by omega) (by omega) (by omega) (by omega), if_neg (by omega), am_ob_p (kk_187 S), rr_187_42 S, am_gr_p, am_ob_p (kk_187 S), am_gr_p, am_ix_p (kk_221 S) (by omega) (by omega) (by omega), am_i_add, show (8 : Int) + (i : Int) = ((8 + i : Nat) : Int) by omega, am_iw_p (kk_221 S) (by omega) (by omega) (by omega) (by omega), am_i_ix (by omega) (by omega), am_i_ix (by omega) (by omega), Int.toNat_natCast, Int.toNat_natCast, am_lt, am_i_add]
      exact r
    · by_cases g : k = i
      · subst g
        rw [(f' _ _ (by omega)).1, am_I_same]
      · rw [e' k (by omega) h2, am_I_ne2 (by omega)]
theorem m_cp115 {L : Nat} {q : am_Pq} (d : Nat) : ∀ (m i : Nat), i + m = 48 → ∀ {M}, am_Sh L q M → ∃ M', am_ev 156 (d + 1) 115 [.ref 187, .int (am_i (i : Int))] [] M = am_ev 156 (d + 1) 144 [.ref 187, .int (am_i 0)] [] M' ∧ am_Sh L q M' ∧ fr (fun b k => b = 222 ∧ 48 + i ≤ k ∧ k < 96) M M' ∧ ∀ k, i ≤ k → k < 48 → am_I M' 222 (48 + k) = am_I M 222 k := by
  intro m
  induction m with
  | zero =>
    intro i hi M S
    refine ⟨M, ?_, S, fr_rfl _ _, fun k h1 h2 => by omega⟩
    rw [t156_115, am_br_ge (by omega) (by omega) (by omega) (by omega), if_pos (by omega)]
  | succ m ih =>
    intro i hi M S
    obtain ⟨M', r, S', f', e'⟩ := ih (i + 1) (by omega) (M := am_sI M 222 (48 + i) (am_I M 222 i)) (S.sI _ _ _)
    refine ⟨M', ?_, S', fr_tr (fr_sI (by omega)) (fr_mono f' (fun b k h => by omega)), fun k h1 h2 => ?_⟩
    · rw [t156_115, am_br_ge (by omega) (by omega) (by omega) (by omega), if_neg (by omega), am_ob_p (kk_187 S), rr_187_43 S, am_gr_p, am_ob_p (kk_187 S), am_gr_p, am_ix_p (kk_222 S) (by omega) (by omega) (by omega), am_i_add, show (48 : Int) + (i : Int) = ((48 + i : Nat) : Int) by omega, am_iw_p (kk_222 S) (by omega) (by omega) (by omega) (by omega), am_i_ix (by omega) (by omega), am_i_ix (by omega) (by omega), Int.toNat_natCast, Int.toNat_natCast, am_lt, am_i_add]
      exact r
    · by_cases g : k = i
      · subst g
        rw [(f' _ _ (by omega)).1, am_I_same]
      · rw [e' k (by omega) h2, am_I_ne2 (by omega)]
theorem m_cp144 {L : Nat} {q : am_Pq} (d : Nat) : ∀ (m i : Nat), i + m = 10 → ∀ {M}, am_Sh L q M → ∃ M', am_ev 156 (d + 1) 144 [.ref 187, .int (am_i (i : Int))] [] M = am_ev 156 (d + 1) 173 [.ref 187, .int (am_i 0)] [] M' ∧ am_Sh L q M' ∧ fr (fun b k => b = 223 ∧ 10 + i ≤ k ∧ k < 20) M M' ∧ ∀ k, i ≤ k → k < 10 → am_I M' 223 (10 + k) = am_I M 223 k := by
  intro m
  induction m with
  | zero =>
    intro i hi M S
    refine ⟨M, ?_, S, fr_rfl _ _, fun k h1 h2 => by omega⟩
    rw [t156_144, am_br_ge (by omega) (by omega) (by omega) (by omega), if_pos (by omega)]
  | succ m ih =>
    intro i hi M S
    obtain ⟨M', r, S', f', e'⟩ := ih (i + 1) (by omega) (M := am_sI M 223 (10 + i) (am_I M 223 i)) (S.sI _ _ _)
    refine ⟨M', ?_, S', fr_tr (fr_sI (by omega)) (fr_mono f' (fun b k h => by omega)), fun k h1 h2 => ?_⟩
    · rw [t156_144, am_br_ge (by omega) (by omega) (by omega) (by omega), if_neg (by omega), am_ob_p (kk_187 S), rr_187_44 S, am_gr_p, am_ob_p (kk_187 S), am_gr_p, am_ix_p (kk_223 S) (by omega) (by omega) (by omega), am_i_add, show (10 : Int) + (i : Int) = ((10 + i : Nat) : Int) by omega, am_iw_p (kk_223 S) (by omega) (by omega) (by omega) (by omega), am_i_ix (by omega) (by omega), am_i_ix (by omega) (by omega), Int.toNat_natCast, Int.toNat_natCast, am_lt, am_i_add]
      exact r
    · by_cases g : k = i
      · subst g
        rw [(f' _ _ (by omega)).1, am_I_same]
      · rw [e' k (by omega) h2, am_I_ne2 (by omega)]
theorem m_cp173 {L : Nat} {q : am_Pq} (d : Nat) : ∀ (m i : Nat), i + m = 30 → ∀ {M}, am_Sh L q M → ∃ M', am_ev 156 (d + 1) 173 [.ref 187, .int (am_i (i : Int))] [] M = am_ev 156 (d + 1) 202 [.ref 187, .int (am_i 0)] [] M' ∧ am_Sh L q M' ∧ fr (fun b k => b = 224 ∧ 30 + i ≤ k ∧ k < 60) M M' ∧ ∀ k, i ≤ k → k < 30 → am_I M' 224 (30 + k) = am_I M 224 k := by
  intro m
  induction m with
  | zero =>
    intro i hi M S
    refine ⟨M, ?_, S, fr_rfl _ _, fun k h1 h2 => by omega⟩
    rw [t156_173, am_br_ge (by omega) (by omega) (by omega) (by omega), if_pos (by omega)]
  | succ m ih =>
    intro i hi M S
    obtain ⟨M', r, S', f', e'⟩ := ih (i + 1) (by omega) (M := am_sI M 224 (30 + i) (am_I M 224 i)) (S.sI _ _ _)
    refine ⟨M', ?_, S', fr_tr (fr_sI (by omega)) (fr_mono f' (fun b k h => by omega)), fun k h1 h2 => ?_⟩
    · rw [t156_173, am_br_ge (by omega) (by omega) (by omega) (by omega), if_neg (by omega), am_ob_p (kk_187 S), rr_187_45 S, am_gr_p, am_ob_p (kk_187 S), am_gr_p, am_ix_p (kk_224 S) (by omega) (by omega) (by omega), am_i_add, show (30 : Int) + (i : Int) = ((30 + i : Nat) : Int) by omega, am_iw_p (kk_224 S) (by omega) (by omega) (by omega) (by omega), am_i_ix (by omega) (by omega), am_i_ix (by omega) (by omega), Int.toNat_natCast, Int.toNat_natCast, am_lt, am_i_add]
      exact r
    · by_cases g : k = i
      · subst g
        rw [(f' _ _ (by omega)).1, am_I_same]
      · rw [e' k (by omega) h2, am_I_ne2 (by omega)]
theorem m_cp202 {L : Nat} {q : am_Pq} (d : Nat) : ∀ (m i : Nat), i + m = 4 → ∀ {M}, am_Sh L q M → ∃ M', am_ev 156 (d + 1) 202 [.ref 187, .int (am_i (i : Int))] [] M = am_ev 156 (d + 1) 229 [.ref 187, .int (am_i 0)] [] M' ∧ am_Sh L q M' ∧ fr (fun b k => b = 225 ∧ 4 + i ≤ k ∧ k < 8) M M' ∧ ∀ k, i ≤ k → k < 4 → am_I M' 225 (4 + k) = am_I M 225 k := by
  intro m
  induction m with
  | zero =>
    intro i hi M S
    refine ⟨M, ?_, S, fr_rfl _ _, fun k h1 h2 => by omega⟩
    rw [t156_202, am_br_ge (by omega) (by omega) (by omega) (by omega), if_pos (by omega)]
  | succ m ih =>
    intro i hi M S
    obtain ⟨M', r, S', f', e'⟩ := ih (i + 1) (by omega) (M := am_sI M 225 (4 + i) (am_I M 225 i)) (S.sI _ _ _)
    refine ⟨M', ?_, S', fr_tr (fr_sI (by omega)) (fr_mono f' (fun b k h => by omega)), fun k h1 h2 => ?_⟩
    · rw [t156_202, am_br_ge (by omega) (by omega) (by omega) (by omega), if_neg (by omega), am_ob_p (kk_187 S), rr_187_47 S, am_gr_p, am_ob_p (kk_187 S), am_gr_p, am_ix_p (kk_225 S) (by omega) (by omega) (by omega), am_i_add, show (4 : Int) + (i : Int) = ((4 + i : Nat) : Int) by omega, am_iw_p (kk_225 S) (by omega) (by omega) (by omega) (by omega), am_i_ix (by omega) (by omega), am_i_ix (by omega) (by omega), Int.toNat_natCast, Int.toNat_natCast, am_lt, am_i_add]
      exact r
    · by_cases g : k = i
      · subst g
        rw [(f' _ _ (by omega)).1, am_I_same]
      · rw [e' k (by omega) h2, am_I_ne2 (by omega)]
theorem m_cp2 {L : Nat} {q : am_Pq} (d : Nat) : ∀ (m i : Nat), i + m = 3 → ∀ {M}, am_Sh L q M → ∃ M', am_ev 156 (d + 1) 2 [.ref 187, .int (am_i (i : Int))] [] M = am_ev 156 (d + 1) 57 [.ref 187, .int (am_i 0)] [] M' ∧ am_Sh L q M' ∧ fr (fun b k => (b = 219 ∨ b = 226 ∨ b = 227) ∧ 3 + i ≤ k ∧ k < 6) M M' ∧ ∀ k, i ≤ k → k < 3 → am_I M' 219 (3 + k) = am_I M 219 k ∧ am_I M' 226 (3 + k) = am_I M 226 k ∧ am_I M' 227 (3 + k) = am_I M 227 k := by
  intro m
  induction m with
  | zero =>
    intro i hi M S
    refine ⟨M, ?_, S, fr_rfl _ _, fun k h1 h2 => by omega⟩
    rw [t156_2, am_br_ge (by omega) (by omega) (by omega) (by omega), if_pos (by omega)]
  | succ m ih =>
    intro i hi M S
    have S1 : am_Sh L q (am_sI M 219 (3 + i) (am_I M 219 i)) := S.sI _ _ _
    obtain ⟨M1, hM1⟩ : ∃ M1, M1 = am_sI M 219 (3 + i) (am_I M 219 i) := ⟨_, rfl⟩
    rw [← hM1] at S1
    have S2 : am_Sh L q (am_sI M1 226 (3 + i) (am_I M1 226 i)) := S1.sI _ _ _
    obtain ⟨M2, hM2⟩ : ∃ M2, M2 = am_sI M1 226 (3 + i) (am_I M1 226 i) := ⟨_, rfl⟩
    rw [← hM2] at S2
    have S3 : am_Sh L q (am_sI M2 227 (3 + i) (am_I M2 227 i)) := S2.sI _ _ _
    obtain ⟨M3, hM3⟩ : ∃ M3, M3 = am_sI M2 227 (3 + i) (am_I M2 227 i) := ⟨_, rfl⟩
    rw [← hM3] at S3
    have f1 : fr (fun b k => b = 219 ∧ k = 3 + i) M M1 := by rw [hM1]; exact fr_sI ⟨rfl, rfl⟩
    have f2 : fr (fun b k => b = 226 ∧ k = 3 + i) M1 M2 := by rw [hM2]; exact fr_sI ⟨rfl, rfl⟩
    have f3 : fr (fun b k => b = 227 ∧ k = 3 + i) M2 M3 := by rw [hM3]; exact fr_sI ⟨rfl, rfl⟩
    have f13 : fr (fun b k => (b = 219 ∨ b = 226 ∨ b = 227) ∧ k = 3 + i) M M3 := fr_tr (fr_mono f1 (fun b k h => by omega)) (fr_tr (fr_mono f2 (fun b k h => by omega)) (fr_mono f3 (fun b k h => by omega)))
    obtain ⟨M', r, S', f', e'⟩ := ih (i + 1) (by omega) S3
    refine ⟨M', ?_, S', fr_tr (fr_mono f13 (fun b k h => by omega)) (fr_mono f' (fun b k h => by omega)), fun k h1 h2 => ?_⟩
    · rw [t156_2, am_br_ge (by omega) (by omega) (by omega) (by omega), if_neg (by omega), am_ob_p (kk_187 S), rr_187_40 S, am_gr_p, am_ob_p (kk_187 S), am_gr_p, am_ix_p (kk_219 S) (by omega) (by omega) (by omega), am_i_add, show (3 : Int) + (i : Int) = ((3 + i : Nat) : Int) by omega, am_iw_p (kk_219 S) (by omega) (by omega) (by omega) (by omega), am_i_ix (by omega) (by omega), am_i_ix (by omega) (by omega), Int.toNat_natCast, Int.toNat_natCast, am_lt, ← hM1]
      rw [am_ob_p (kk_187 S1), rr_187_48 S1, am_gr_p, am_ob_p (kk_187 S1), am_gr_p, am_ix_p (kk_226 S1) (by omega) (by omega) (by omega), am_iw_p (kk_226 S1) (by omega) (by omega) (by omega) (by omega), am_lt, ← hM2]
      rw [am_ob_p (kk_187 S2), rr_187_49 S2, am_gr_p, am_ob_p (kk_187 S2), am_gr_p, am_ix_p (kk_227 S2) (by omega) (by omega) (by omega), am_iw_p (kk_227 S2) (by omega) (by omega) (by omega) (by omega), am_lt, ← hM3, am_i_add]
      exact r
    · by_cases g : k = i
      · subst g
        refine ⟨?_, ?_, ?_⟩
        · rw [(f' _ _ (by omega)).1, (f3 _ _ (by omega)).1, (f2 _ _ (by omega)).1, hM1, am_I_same]
        · rw [(f' _ _ (by omega)).1, (f3 _ _ (by omega)).1, hM2, am_I_same, (f1 _ _ (by omega)).1]
        · rw [(f' _ _ (by omega)).1, hM3, am_I_same, (f2 _ _ (by omega)).1, (f1 _ _ (by omega)).1]
      · obtain ⟨e1, e2, e3⟩ := e' k (by omega) h2
        exact ⟨e1.trans (f13 _ _ (by omega)).1, e2.trans (f13 _ _ (by omega)).1, e3.trans (f13 _ _ (by omega)).1⟩
theorem m_cp229 {L : Nat} {q : am_Pq} (d : Nat) {D : Nat} (hD : D ≤ 1600) : ∀ (m i : Nat), i + m = D → ∀ {M}, am_Sh L q M → am_I M 187 51 = am_i (D : Int) → ∃ M', am_ev 156 (d + 1) 229 [.ref 187, .int (am_i (i : Int))] [] M = am_ev 156 (d + 1) 261 [.ref 187, .int (am_i 0)] [] M' ∧ am_Sh L q M' ∧ fr (fun b k => b = 228 ∧ 1600 + i ≤ k) M M' ∧ ∀ k, i ≤ k → k < D → am_I M' 228 (1600 + k) = am_I M 228 k := by
  intro m
  induction m with
  | zero =>
    intro i hi M S e51
    refine ⟨M, ?_, S, fr_rfl _ _, fun k h1 h2 => by omega⟩
    rw [t156_229, am_ob_p (kk_187 S), e51, am_br_ge (by omega) (by omega) (by omega) (by omega), if_pos (by omega)]
  | succ m ih =>
    intro i hi M S e51
    obtain ⟨M', r, S', f', e'⟩ := ih (i + 1) (by omega) (M := am_sI M 228 (1600 + i) (am_I M 228 i)) (S.sI _ _ _) (by rw [am_I_ne1 (by omega)]; exact e51)
    refine ⟨M', ?_, S', fr_tr (fr_sI (by omega)) (fr_mono f' (fun b k h => by omega)), fun k h1 h2 => ?_⟩
    · rw [t156_229, am_ob_p (kk_187 S), e51, am_br_ge (by omega) (by omega) (by omega) (by omega), if_neg (by omega), am_ob_p (kk_187 S), rr_187_50 S, am_gr_p, am_ob_p (kk_187 S), am_gr_p, am_ix_p (kk_228 S) (by omega) (by omega) (by omega), am_i_add, show (1600 : Int) + (i : Int) = ((1600 + i : Nat) : Int) by omega, am_iw_p (kk_228 S) (by omega) (by omega) (by omega) (by omega), am_i_ix (by omega) (by omega), am_i_ix (by omega) (by omega), Int.toNat_natCast, Int.toNat_natCast, am_lt, am_i_add]
      exact r
    · by_cases g : k = i
      · subst g
        rw [(f' _ _ (by omega)).1, am_I_same]
      · rw [e' k (by omega) h2, am_I_ne2 (by omega)]
