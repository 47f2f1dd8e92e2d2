/-! A new house: what the class changes behind its reader. -/
theorem Sh_63 {L : Nat} {q : am_Pq} {M : am_M} (S : am_Sh L q M) (v : Nat) : am_Sh L (q.1, q.2.1, v, q.2.2.2) (am_sR M 63 0 v) := by
  obtain ⟨h1, h2, h3, h4⟩ := S
  refine ⟨h1, fun r hr j hj => ?_, h3, h4⟩
  show (if r = 63 ∧ j = 0 then some v else am_R M r j) = am_rr (q.1, q.2.1, v, q.2.2.2) r j
  unfold am_rr
  by_cases g : r = 63 ∧ j = 0
  · rw [if_pos g, if_neg (by omega), if_neg (by omega), if_pos g]
  · rw [if_neg g, h2 r hr j hj]
    unfold am_rr
    simp only [if_neg g]
theorem Sh_32 {L : Nat} {q : am_Pq} {M : am_M} (S : am_Sh L q M) (v : Nat) : am_Sh L (v, q.2.1, q.2.2.1, q.2.2.2) (am_sR M 3 2 v) := by
  obtain ⟨h1, h2, h3, h4⟩ := S
  refine ⟨h1, fun r hr j hj => ?_, h3, h4⟩
  show (if r = 3 ∧ j = 2 then some v else am_R M r j) = am_rr (v, q.2.1, q.2.2.1, q.2.2.2) r j
  unfold am_rr
  by_cases g : r = 3 ∧ j = 2
  · rw [if_pos g, if_pos g]
  · rw [if_neg g, h2 r hr j hj]
    unfold am_rr
    simp only [if_neg g]
theorem qok_swap {q : am_Pq} (h : qok q) : qok (q.2.2.1, q.2.1, q.1, q.2.2.2) := by
  obtain ⟨h1, h2, h3⟩ := h
  refine ⟨?_, h2, h3⟩
  show q.1 = 4 ∧ q.2.2.1 = 38 ∨ q.1 = 38 ∧ q.2.2.1 = 4
  omega
theorem c_clear64 {L : Nat} {q : am_Pq} {M : am_M} (S : am_Sh L q M) (d : Nat) : ∃ M', am_cl 65 d [.ref 64] M = some (none, M') ∧ am_Sh L q M' ∧ fr (pA 64) M M' ∧ cA M' 64 azr ∧ cK M' 64 [] 0 := by
  have k3 : ∀ m n : Nat, n + m = 5 → ∀ M1, am_Sh L q M1 → fr (pA 64) M M1 → am_I M1 64 0 = am_i 0 → am_I M1 64 1 = am_i 0 → (∀ k, k < 36 → am_I M1 65 k = am_i 0) → (∀ k, k < 48 → am_I M1 66 k = am_i 0) → (∀ k, k < n → am_I M1 67 k = am_i 0) → ∃ M', am_ev 65 d 60 [.ref 64, .int (am_i n)] [] M1 = some (none, M') ∧ am_Sh L q M' ∧ fr (pA 64) M M' ∧ cA M' 64 azr ∧ cK M' 64 [] 0 := by
    intro m
    induction m with
    | zero =>
      intro n hn M1 S1 f1 h0 h1 h2 h3 h4
      refine ⟨am_sI M1 64 6 (am_i 0), ?_, S1.sI _ _ _, fr_tr f1 (fr_sI (Or.inl ⟨rfl, Or.inr (Or.inr rfl)⟩)), ⟨by rw [am_I_ne2 (by omega)]; exact h0, by rw [am_I_ne2 (by omega)]; exact h1, fun q' hq' k hk => by rw [am_I_ne1 (by omega)]; exact h2 _ (by omega), fun q' hq' f hf => by rw [am_I_ne1 (by omega)]; exact h3 _ (by omega), fun p hp => by rw [am_I_ne1 (by omega)]; exact h4 p (by omega)⟩, 0, Nat.le_refl _, am_I_same _ _ _ _, rfl, fun k hk => absurd hk (by show ¬ k < 0; omega)⟩
      rw [t65_60, am_br_ge (by omega) (by omega) (by omega) (by omega), if_pos (by omega), am_ob_p (kk_64 S1)]
      rfl
    | succ m ih =>
      intro n hn M1 S1 f1 h0 h1 h2 h3 h4
      obtain ⟨M', r, hR⟩ := ih (n + 1) (by omega) (am_sI M1 67 n (am_i 0)) (S1.sI _ _ _) (fr_tr f1 (fr_sI (Or.inr ⟨by omega, by omega⟩))) (by rw [am_I_ne1 (by omega)]; exact h0) (by rw [am_I_ne1 (by omega)]; exact h1) (fun k hk => by rw [am_I_ne1 (by omega)]; exact h2 k hk) (fun k hk => by rw [am_I_ne1 (by omega)]; exact h3 k hk) (fun k hk => by
        by_cases g : k = n
        · subst g; rw [am_I_same]
        · rw [am_I_ne2 g]; exact h4 k (by omega))
      refine ⟨M', ?_, hR⟩
      rw [t65_60, am_br_ge (by omega) (by omega) (by omega) (by omega), if_neg (by omega), am_ob_p (kk_64 S1), rr_64_4 S1, am_gr_p, am_iw_p (kk_67 S1) (by omega) (by omega) (by omega) (by omega), am_i_ix (by omega) (by omega), Int.toNat_natCast, am_lt, am_i_add]
      exact r
  have k2 : ∀ m n : Nat, n + m = 48 → ∀ M1, am_Sh L q M1 → fr (pA 64) M M1 → am_I M1 64 0 = am_i 0 → am_I M1 64 1 = am_i 0 → (∀ k, k < 36 → am_I M1 65 k = am_i 0) → (∀ k, k < n → am_I M1 66 k = am_i 0) → ∃ M', am_ev 65 d 36 [.ref 64, .int (am_i n)] [] M1 = some (none, M') ∧ am_Sh L q M' ∧ fr (pA 64) M M' ∧ cA M' 64 azr ∧ cK M' 64 [] 0 := by
    intro m
    induction m with
    | zero =>
      intro n hn M1 S1 f1 h0 h1 h2 h3
      obtain ⟨M', r, hR⟩ := k3 5 0 (by omega) M1 S1 f1 h0 h1 h2 (fun k hk => h3 k (by omega)) (fun k hk => absurd hk (by omega))
      refine ⟨M', ?_, hR⟩
      rw [t65_36, am_ob_p (kk_64 S1), rr_64_3 S1, am_gr_p, kk_66 S1, am_if_t (by decide), am_i_nI, am_br_ge (by omega) (by omega) (by omega) (by omega), if_pos (by omega)]
      exact r
    | succ m ih =>
      intro n hn M1 S1 f1 h0 h1 h2 h3
      obtain ⟨M', r, hR⟩ := ih (n + 1) (by omega) (am_sI M1 66 n (am_i 0)) (S1.sI _ _ _) (fr_tr f1 (fr_sI (Or.inr ⟨by omega, by omega⟩))) (by rw [am_I_ne1 (by omega)]; exact h0) (by rw [am_I_ne1 (by omega)]; exact h1) (fun k hk => by rw [am_I_ne1 (by omega)]; exact h2 k hk) (fun k hk => by
        by_cases g : k = n
        · subst g; rw [am_I_same]
        · rw [am_I_ne2 g]; exact h3 k (by omega))
      refine ⟨M', ?_, hR⟩
      rw [t65_36, am_ob_p (kk_64 S1), rr_64_3 S1, am_gr_p, kk_66 S1, am_if_t (by decide), am_i_nI, am_br_ge (by omega) (by omega) (by omega) (by omega), if_neg (by omega), am_ob_p (kk_64 S1), am_gr_p, am_iw_p (kk_66 S1) (by omega) (by omega) (by omega) (by omega), am_i_ix (by omega) (by omega), Int.toNat_natCast, am_lt, am_i_add]
      exact r
  have k1 : ∀ m n : Nat, n + m = 36 → ∀ M1, am_Sh L q M1 → fr (pA 64) M M1 → am_I M1 64 0 = am_i 0 → am_I M1 64 1 = am_i 0 → (∀ k, k < n → am_I M1 65 k = am_i 0) → ∃ M', am_ev 65 d 12 [.ref 64, .int (am_i n)] [] M1 = some (none, M') ∧ am_Sh L q M' ∧ fr (pA 64) M M' ∧ cA M' 64 azr ∧ cK M' 64 [] 0 := by
    intro m
    induction m with
    | zero =>
      intro n hn M1 S1 f1 h0 h1 h2
      obtain ⟨M', r, hR⟩ := k2 48 0 (by omega) M1 S1 f1 h0 h1 (fun k hk => h2 k (by omega)) (fun k hk => absurd hk (by omega))
      refine ⟨M', ?_, hR⟩
      rw [t65_12, am_ob_p (kk_64 S1), rr_64_2 S1, am_gr_p, kk_65 S1, am_if_t (by decide), am_i_nI, am_br_ge (by omega) (by omega) (by omega) (by omega), if_pos (by omega)]
      exact r
    | succ m ih =>
      intro n hn M1 S1 f1 h0 h1 h2
      obtain ⟨M', r, hR⟩ := ih (n + 1) (by omega) (am_sI M1 65 n (am_i 0)) (S1.sI _ _ _) (fr_tr f1 (fr_sI (Or.inr ⟨by omega, by omega⟩))) (by rw [am_I_ne1 (by omega)]; exact h0) (by rw [am_I_ne1 (by omega)]; exact h1) (fun k hk => by
        by_cases g : k = n
        · subst g; rw [am_I_same]
        · rw [am_I_ne2 g]; exact h2 k (by omega))
      refine ⟨M', ?_, hR⟩
      rw [t65_12, am_ob_p (kk_64 S1), rr_64_2 S1, am_gr_p, kk_65 S1, am_if_t (by decide), am_i_nI, am_br_ge (by omega) (by omega) (by omega) (by omega), if_neg (by omega), am_ob_p (kk_64 S1), am_gr_p, am_iw_p (kk_65 S1) (by omega) (by omega) (by omega) (by omega), am_i_ix (by omega) (by omega), Int.toNat_natCast, am_lt, am_i_add]
      exact r
  obtain ⟨M', r, hR⟩ := k1 36 0 (by omega) (am_sI (am_sI M 64 0 (am_i 0)) 64 1 (am_i 0)) ((S.sI _ _ _).sI _ _ _) (fr_tr (fr_sI (Or.inl ⟨rfl, Or.inl rfl⟩)) (fr_sI (Or.inl ⟨rfl, Or.inr (Or.inl rfl)⟩))) (by rw [am_I_ne2 (by omega), am_I_same]) (am_I_same _ _ _ _) (fun k hk => absurd hk (by omega))
  refine ⟨M', ?_, hR⟩
  rw [t65, am_ob_p (kk_64 S)]
  simp only [am_lt]
  rw [am_ob_p (kk_64 (S.sI 64 0 _))]
  exact r
