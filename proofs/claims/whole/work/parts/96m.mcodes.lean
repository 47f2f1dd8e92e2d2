/-! The reference: formulas of a house. -/
theorem qA_pMt {b k : Nat} (h : qA b k) : pMt b k := by
  unfold qA at h
  rcases h with h | h | h
  · exact ⟨sM_257 (by omega), by omega⟩
  · exact ⟨sM_257 (by omega), by omega⟩
  · exact pMt_187 (by omega)
theorem m_copy {L : Nat} {q : am_Pq} {j : Nat} (hj : j < 3) {F : List Int} {D : Nat} (hD : D + F.length ≤ 1600) (d : Nat) (v2 : Value) : ∀ (m i : Nat), i + m = F.length → ∀ {M}, am_Sh L q M → am_I M 187 92 = am_i (F.length : Int) → (∀ k, k < F.length → am_I M 257 k = am_i (F.getD k 0)) → am_I M 187 51 = am_i ((D + i : Nat) : Int) → (∀ k, k < i → am_I M 228 (D + k) = am_i (F.getD k 0)) → ∀ v2, ∃ M', am_ev 153 (d + 1) 92 [.ref 187, .int (am_i (j : Int)), v2, .int (am_i (i : Int))] [] M = some (none, M') ∧ am_Sh L q M' ∧ fr (fun b k => (b = 187 ∧ k = 51) ∨ (b = 227 ∧ k = j) ∨ (b = 228 ∧ D ≤ k ∧ k < D + F.length)) M M' ∧ am_I M' 187 51 = am_i ((D + F.length : Nat) : Int) ∧ am_I M' 227 j = am_i ((D + F.length : Nat) : Int) ∧ ∀ k, k < F.length → am_I M' 228 (D + k) = am_i (F.getD k 0) := by
  intro m
  induction m with
  | zero =>
    intro i hi M S e92 e257 e51 eC v2
    have hi : i = F.length := by omega
    subst hi
    refine ⟨am_sI M 227 j (am_i ((D + F.length : Nat) : Int)), ?_, S.sI _ _ _, fr_sI (Or.inr (Or.inl ⟨rfl, rfl⟩)), by rw [am_I_ne1 (by omega)]; exact e51, am_I_same _ _ _ _, fun k hk => by rw [am_I_ne1 (by omega)]; exact eC k hk⟩
    rw [t153_92, am_ob_p (kk_187 S), e92, am_br_ge (by omega) (by omega) (by omega) (by omega), if_pos (by omega), am_ob_p (kk_187 S), rr_187_49 S, am_gr_p, am_ob_p (kk_187 S), am_iw_p (kk_227 S) (by omega) (by omega) (by omega) (by omega), am_i_ix (by omega) (by omega), Int.toNat_natCast, am_lt, e51]
  | succ m ih =>
    intro i hi M S e92 e257 e51 eC v2
    have S1 : am_Sh L q (am_sI M 228 (D + i) (am_i (F.getD i 0))) := S.sI _ _ _
    have e51' : am_I (am_sI M 228 (D + i) (am_i (F.getD i 0))) 187 51 = am_i ((D + i : Nat) : Int) := by rw [am_I_ne1 (by omega)]; exact e51
    obtain ⟨M', r, S', f', g1, g2, g3⟩ := ih (i + 1) (by omega) (M := am_sI (am_sI M 228 (D + i) (am_i (F.getD i 0))) 187 51 (am_i ((D + (i + 1) : Nat) : Int))) (S1.sI _ _ _) (by rw [am_I_ne2 (by omega), am_I_ne1 (by omega)]; exact e92) (fun k hk => by rw [am_I_ne1 (by omega), am_I_ne1 (by omega)]; exact e257 k hk) (am_I_same _ _ _ _) (fun k hk => by
      rw [am_I_ne1 (by omega)]
      by_cases g : k = i
      · subst g; rw [am_I_same]
      · rw [am_I_ne2 (by omega)]; exact eC k (by omega)) (am_kl v2)
    refine ⟨M', ?_, S', fr_tr (fr_sI (Or.inr (Or.inr ⟨rfl, by omega, by omega⟩))) (fr_tr (fr_sI (Or.inl ⟨rfl, rfl⟩)) f'), g1, g2, g3⟩
    rw [t153_92, am_ob_p (kk_187 S), e92, am_br_ge (by omega) (by omega) (by omega) (by omega), if_neg (by omega), am_ob_p (kk_187 S), rr_187_50 S, am_gr_p, am_ob_p (kk_187 S), am_ob_p (kk_187 S), rr_187_91 S, am_gr_p, am_ix_p (kk_257 S) (by omega) (by omega) (by omega), e51, am_iw_p (kk_228 S) (by omega) (by omega) (by omega) (by omega), am_i_ix (by omega) (by omega), am_i_ix (by omega) (by omega), Int.toNat_natCast, Int.toNat_natCast, e257 i (by omega), am_lt, am_ob_p (kk_187 S1), am_ob_p (kk_187 S1), e51', am_i_add, am_lt, am_i_add, show ((D + i : Nat) : Int) + 1 = ((D + (i + 1) : Nat) : Int) by omega]
    exact r
