/-! The two readers: blanks. -/
/-- from a on over blanks, m bytes at most -/
def skp (Z : Nat → Nat → Int) : Nat → Nat → Nat
  | 0, a => a
  | m + 1, a => if Z 0 a = 10 ∨ Z 0 a = 32 then skp Z m (a + 1) else a
theorem skp_bd (Z : Nat → Nat → Int) : ∀ m a, a ≤ skp Z m a ∧ skp Z m a ≤ a + m
  | 0, a => ⟨Nat.le_refl _, Nat.le_refl _⟩
  | m + 1, a => by
    have h := skp_bd Z m (a + 1)
    unfold skp
    split <;> omega
theorem skp_out (Z : Nat → Nat → Int) : ∀ m a, skp Z m a < a + m → ¬ (Z 0 (skp Z m a) = 10 ∨ Z 0 (skp Z m a) = 32)
  | 0, a, h => absurd h (by show ¬ a < a + 0; omega)
  | m + 1, a, h => by
    unfold skp at h ⊢
    split
    · rename_i g
      rw [if_pos g] at h
      exact skp_out Z m (a + 1) (by omega)
    · assumption
/-- where the next token starts, from a on, in a tape of n bytes -/
def sk (Z : Nat → Nat → Int) (n a : Nat) : Nat := skp Z (n - a) a
theorem sk_stop {Z : Nat → Nat → Int} {n a : Nat} (h : ¬ a < n) : sk Z n a = a := by
  unfold sk
  rw [show n - a = 0 by omega]
  rfl
theorem sk_step {Z : Nat → Nat → Int} {n a : Nat} (h : a < n) (g : Z 0 a = 10 ∨ Z 0 a = 32) : sk Z n a = sk Z n (a + 1) := by
  unfold sk
  rw [show n - a = (n - (a + 1)) + 1 by omega]
  exact if_pos g
theorem sk_here {Z : Nat → Nat → Int} {n a : Nat} (h : a < n) (g : ¬ (Z 0 a = 10 ∨ Z 0 a = 32)) : sk Z n a = a := by
  unfold sk
  rw [show n - a = (n - (a + 1)) + 1 by omega]
  exact if_neg g
theorem sk_bd (Z : Nat → Nat → Int) (n a : Nat) : a ≤ sk Z n a ∧ (a ≤ n → sk Z n a ≤ n) := by
  have h := skp_bd Z (n - a) a
  unfold sk
  omega
theorem sk_idem (Z : Nat → Nat → Int) (n a : Nat) : sk Z n (sk Z n a) = sk Z n a := by
  by_cases h : sk Z n a < n
  · refine sk_here h ?_
    unfold sk at h ⊢
    by_cases g : a < n
    · exact skp_out Z (n - a) a (by omega)
    · rw [show n - a = 0 by omega] at h
      exact absurd (show a < n from h) g
  · exact sk_stop h
theorem m_look' {L : Nat} {q : am_Pq} {Z : Nat → Nat → Int} (hz : ∀ k, 0 ≤ Z 0 k ∧ Z 0 k ≤ 255) {n : Nat} (hn : n ≤ 1600) (d : Nat) : ∀ m a : Nat, n - a = m → a ≤ n → ∀ M : am_M, am_Sh L q M → (∀ k, k < 1600 → am_I M 188 k = am_i (Z 0 k)) → am_I M 187 2 = am_i a → am_I M 187 3 = am_i n →
    ∃ M', am_ev 133 d 0 [.ref 187] [] M = some (some (.int (am_i (if sk Z n a < n then Z 0 (sk Z n a) else -1))), M') ∧ am_Sh L q M' ∧ fr (fun b k => b = 187 ∧ k = 2) M M' ∧ am_I M' 187 2 = am_i (sk Z n a : Int) := by
  intro m
  induction m with
  | zero =>
    intro a hm ha M S HI e2 e3
    have : a = n := by omega
    subst this
    rw [sk_stop (Z := Z) (Nat.lt_irrefl a)]
    refine ⟨M, ?_, S, fr_rfl _ _, e2⟩
    rw [t133_0, am_ob_p (kk_187 S), am_ob_p (kk_187 S), e2, e3, am_br_ge (by omega) (by omega) (by omega) (by omega), if_pos (by omega), t133_52, am_ob_p (kk_187 S), am_ob_p (kk_187 S), e2, e3, am_br_ge (by omega) (by omega) (by omega) (by omega), if_pos (by omega), if_neg (by omega)]
  | succ m ih =>
    intro a hm ha M S HI e2 e3
    have han : a < n := by omega
    have b := hz a
    have ek := HI a (by omega)
    by_cases g : Z 0 a = 10 ∨ Z 0 a = 32
    · obtain ⟨M', r, S', f', e'⟩ := ih (a + 1) (by omega) (by omega) (am_sI M 187 2 (am_i ((a : Int) + 1))) (S.sI _ _ _) (fun k hk => by rw [am_I_ne1 (by omega)]; exact HI k hk) (am_I_same _ _ _ _) (by rw [am_I_ne2 (by omega)]; exact e3)
      rw [sk_step han g]
      refine ⟨M', ?_, S', fr_tr (fr_sI ⟨rfl, rfl⟩) f', e'⟩
      rw [t133_0]
      simp (disch := omega) only [am_ob_p (kk_187 S), rr_187_0 S, am_gr_p, e2, e3, am_br_ge, am_ix_p (kk_188 S), am_i_ix, Int.toNat_natCast, ek, am_br_eq, am_br_ne, am_i_add, am_lt]
      rw [if_neg (by omega)]
      by_cases g2 : Z 0 a = 10
      · rw [if_pos g2]; exact r
      · rw [if_neg g2, if_pos (by omega)]; exact r
    · rw [sk_here han g]
      refine ⟨M, ?_, S, fr_rfl _ _, e2⟩
      rw [t133_0]
      simp (disch := omega) only [am_ob_p (kk_187 S), rr_187_0 S, am_gr_p, e2, e3, am_br_ge, am_ix_p (kk_188 S), am_i_ix, Int.toNat_natCast, ek, am_br_eq, am_br_ne, am_i_add, am_lt]
      rw [if_neg (by omega), if_neg (fun h => g (Or.inl h)), if_neg (fun h => g (Or.inr h)), t133_52]
      simp (disch := omega) only [am_ob_p (kk_187 S), rr_187_0 S, am_gr_p, e2, e3, am_br_ge, am_ix_p (kk_188 S), am_i_ix, Int.toNat_natCast, ek]
      rw [if_neg (by omega), if_pos han]
