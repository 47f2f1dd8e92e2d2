/-! The reference: the loop of a house. -/
def mLo (L : Nat) (q : am_Pq) (Z : Nat → Nat → Int) (n : Nat) (M : am_M) : Sum (Int × Int) (Nat × am_HS) → Prop
  | .inl e => mFa L q Z n M e
  | .inr (c, H) => (∃ s t, mP L q Z n M s t) ∧ mHt M H ∧ am_I M 187 52 = am_i (c : Int)
theorem m_loopE {L : Nat} {q : am_Pq} {Z : Nat → Nat → Int} {n : Nat} {M : am_M} {e : Int × Int} (H : mFa L q Z n M e) (v1 : Value) (d : Nat) : am_ev 155 (d + 1) 124 [.ref 187, v1] [] M = am_ev 155 (d + 1) 146 [.ref 187, v1] [] M := by
  rw [t155_124, am_ob_p (kk_187 H.1), (m_bad H).1]
theorem lk_pMu {M M' : am_M} (f : fr (fun b k => b = 187 ∧ k = 2) M M') : fr pMu M M' := fr_mono f (fun b k h => pMt_u (pMt_187 (by omega)))
theorem m_loop {L : Nat} {q : am_Pq} {Z : Nat → Nat → Int} {n : Nat} (d : Nat) (v1 : Value) : ∀ (m c : Nat), c + m = 80 → ∀ {M : am_M} {s : Nat} {t : Bool} {H : am_HS}, mP L q Z n M s t → mHt M H → hI H s → am_I M 187 52 = am_i (c : Int) → ∃ M', am_ev 155 (d + 12 + 1) 124 [.ref 187, v1] [] M = am_ev 155 (d + 12 + 1) 146 [.ref 187, v1] [] M' ∧ fr pMu M M' ∧ mLo L q Z n M' (sLoop Z n m c H s t) := by
  -- look, and where nothing is left
  have lk : ∀ {M : am_M} {s : Nat} {t : Bool} {H : am_HS} {c : Nat}, mP L q Z n M s t → mHt M H → am_I M 187 52 = am_i (c : Int) → ∃ M1, mQt L q Z n M1 s t ∧ mHt M1 H ∧ am_I M1 187 52 = am_i (c : Int) ∧ fr pMu M M1 ∧ am_ev 155 (d + 12 + 1) 124 [.ref 187, v1] [] M = if kd Z n s t = 0 then am_ev 155 (d + 12 + 1) 146 [.ref 187, v1] [] M1 else am_ob M1 187 6 (am_bV (am_cl 154 (d + 12) [.ref 187] M1) (fun M3 => am_ev 155 (d + 12 + 1) 124 [.ref 187, v1] [] M3)) none := by
    intro M s t H c HP HH e52
    obtain ⟨M1, r1, H1, f1⟩ := m_lk HP (d + 12)
    have f1r : fr rR M M1 := fr_mono f1 (fun b k h => by unfold rR; omega)
    refine ⟨M1, H1, mHt_R HH f1r, ((f1 _ _ (by omega)).1).trans e52, lk_pMu f1, ?_⟩
    have hb := (mP_S HP).2.2.2.2 s
    obtain ⟨-, -, -, k0⟩ := kd_kinds Z n s t
    rw [t155_124, am_ob_p (kk_187 (mP_S HP).1), (m_ok HP).1, am_ob_p (kk_187 (mP_S HP).1), r1, am_bI_p]
    by_cases g : s < n
    · rw [if_pos g, am_br_eq (by omega) (by omega) (by omega) (by omega), if_neg (by omega), if_neg (fun h => (k0.mp h) g)]
    · rw [if_neg g, am_br_eq (by omega) (by omega) (by omega) (by omega), if_pos rfl, if_pos (k0.mpr g)]
  intro m
  induction m with
  | zero =>
    intro c hc M s t H HP HH hi e52
    obtain ⟨M1, H1, HH1, e1, f1, h0⟩ := lk HP HH e52
    unfold sLoop
    by_cases g : kd Z n s t = 0
    · rw [if_pos g] at h0 ⊢
      exact ⟨M1, h0, f1, ⟨s, t, mQ_P H1⟩, HH1, e1⟩
    · rw [if_neg g] at h0 ⊢
      have HP1 := mQ_P H1
      have S1 := (mP_S HP1).1
      obtain ⟨M2, r2, H2, f2⟩ := m_fail HP1 (c := 5) (p := (s : Int)) (by omega) (d + 11)
      have hs : am_cl 154 (d + 12) [.ref 187] M1 = some (none, M2) := by
        rw [show d + 12 = d + 11 + 1 from rfl, t154, am_ob_p (kk_187 S1), am_ob_p (kk_187 S1), e1, mQ_at H1, am_br_ne (by omega) (by omega) (by omega) (by omega), if_pos (by omega), am_ob_p (kk_187 S1), r2, am_bV_p]
      rw [am_ob_p (kk_187 S1), hs, am_bV_p, m_loopE H2] at h0
      exact ⟨M2, h0, fr_tr f1 (fr_mono f2 (fun b k h => pMt_u (pMt_187 (by omega)))), H2⟩
  | succ m ih =>
    intro c hc M s t H HP HH hi e52
    obtain ⟨M1, H1, HH1, e1, f1, h0⟩ := lk HP HH e52
    by_cases g : kd Z n s t = 0
    · unfold sLoop
      rw [if_pos g] at h0 ⊢
      exact ⟨M1, h0, f1, ⟨s, t, mQ_P H1⟩, HH1, e1⟩
    · rw [if_neg g] at h0
      have hE : sLoop Z n (m + 1) c H s t = match sStm Z n H s t with
          | .inl e => .inl e
          | .inr (s', t', H') => sLoop Z n m (c + 1) H' s' t' := if_neg g
      rw [hE]
      have HP1 := mQ_P H1
      have S1 := (mP_S HP1).1
      have hO := hO_stm (t := t) hi (mP_S HP).2.2.2.1 (Z := Z)
      obtain ⟨M2, r2, H2, f2⟩ := m_stmt H1 HH1 hi e1 (by omega) d
      rw [am_ob_p (kk_187 S1), r2, am_bV_p] at h0
      cases hs : sStm Z n H s t with
      | inl e =>
        rw [hs] at H2
        have H2 : mFa L q Z n M2 e := H2
        rw [m_loopE H2] at h0
        exact ⟨M2, h0, fr_tr f1 f2, H2⟩
      | inr x =>
        obtain ⟨s', t', H'⟩ := x
        rw [hs] at H2 hO
        obtain ⟨HP2, HH2, e2⟩ := H2
        obtain ⟨M3, h3, f3, H3⟩ := ih (c + 1) (by omega) HP2 HH2 hO.1 e2
        exact ⟨M3, h0.trans h3, fr_tr f1 (fr_tr f2 f3), H3⟩
/-- all is set back -/
theorem m_hst50 {L : Nat} {q : am_Pq} (d : Nat) (v : Value) : ∀ (m i : Nat), i + m = 3 → ∀ {M}, am_Sh L q M → ∃ M', am_ev 155 (d + 1) 50 [.ref 187, .int (am_i (i : Int))] [] M = am_ev 155 (d + 1) 77 [.ref 187, .int (am_i 0)] [] M' ∧ am_Sh L q M' ∧ fr (fun b k => (b = 219 ∨ b = 226) ∧ i ≤ k ∧ k < 3) M M' ∧ ∀ k, i ≤ k → k < 3 → am_I M' 219 k = am_i 0 ∧ am_I M' 226 k = am_i (-1) := by
  intro m
  induction m with
  | zero =>
    intro i hi M S
    refine ⟨M, ?_, S, fr_rfl _ _, fun k h1 h2 => by omega⟩
    rw [t155_50, am_br_ge (by omega) (by omega) (by omega) (by omega), if_pos (by omega)]
  | succ m ih =>
    intro i hi M S
    have S1 := S.sI 219 i (am_i 0)
    obtain ⟨M', r, S', f', e'⟩ := ih (i + 1) (by omega) (M := am_sI (am_sI M 219 i (am_i 0)) 226 i (am_i (-1))) (S1.sI _ _ _)
    refine ⟨M', ?_, S', fr_tr (fr_sI (by omega)) (fr_tr (fr_sI (by omega)) (fr_mono f' (fun b k h => by omega))), fun k h1 h2 => ?_⟩
    · rw [t155_50, am_br_ge (by omega) (by omega) (by omega) (by omega), if_neg (by omega), am_ob_p (kk_187 S), rr_187_40 S, am_gr_p, am_iw_p (kk_219 S) (by omega) (by omega) (by omega) (by omega), am_i_ix (by omega) (by omega), Int.toNat_natCast, am_lt, am_ob_p (kk_187 S1), rr_187_48 S1, am_gr_p, am_iw_p (kk_226 S1) (by omega) (by omega) (by omega) (by omega), am_lt, am_i_add]
      exact r
    · by_cases g : k = i
      · subst g
        rw [(f' _ _ (by omega)).1, (f' _ _ (by omega)).1, am_I_ne1 (by omega), am_I_same, am_I_same]
        exact ⟨rfl, rfl⟩
      · exact e' k (by omega) h2
theorem m_hst77 {L : Nat} {q : am_Pq} (d : Nat) : ∀ (m i : Nat), i + m = 30 → ∀ {M}, am_Sh L q M → ∃ M' v, am_ev 155 (d + 1) 77 [.ref 187, .int (am_i (i : Int))] [] M = am_ev 155 (d + 1) 124 [.ref 187, v] [] M' ∧ am_Sh L q M' ∧ fr (fun b k => (b = 224 ∧ i ≤ k ∧ k < 30) ∨ (b = 225 ∧ k < 4)) M M' ∧ (∀ k, i ≤ k → k < 30 → am_I M' 224 k = am_i 0) ∧ am_I M' 225 0 = am_i 5 ∧ am_I M' 225 1 = am_i 0 ∧ am_I M' 225 2 = am_i 0 ∧ am_I M' 225 3 = am_i 0 := by
  intro m
  induction m with
  | zero =>
    intro i hi M S
    have S1 := S.sI 225 0 (am_i 5)
    have S2 := S1.sI 225 1 (am_i 0)
    have S3 := S2.sI 225 2 (am_i 0)
    have S4 := S3.sI 225 3 (am_i 0)
    refine ⟨_, .int (am_i (i : Int)), ?_, S4, fr_tr (fr_sI (by omega)) (fr_tr (fr_sI (by omega)) (fr_tr (fr_sI (by omega)) (fr_sI (by omega)))), fun k h1 h2 => by omega, ?_, ?_, ?_, ?_⟩
    · rw [t155_77, am_br_ge (by omega) (by omega) (by omega) (by omega), if_pos (by omega), am_ob_p (kk_187 S), rr_187_47 S, am_gr_p, am_iw_p (kk_225 S) (by omega) (by omega) (by omega) (by omega), am_i_ix (by omega) (by omega), show Int.toNat 0 = 0 from rfl, am_lt, am_ob_p (kk_187 S1), rr_187_47 S1, am_gr_p, am_iw_p (kk_225 S1) (by omega) (by omega) (by omega) (by omega), am_i_ix (by omega) (by omega), show Int.toNat 1 = 1 from rfl, am_lt, am_ob_p (kk_187 S2), rr_187_47 S2, am_gr_p, am_iw_p (kk_225 S2) (by omega) (by omega) (by omega) (by omega), am_i_ix (by omega) (by omega), show Int.toNat 2 = 2 from rfl, am_lt, am_ob_p (kk_187 S3), rr_187_47 S3, am_gr_p, am_iw_p (kk_225 S3) (by omega) (by omega) (by omega) (by omega), am_i_ix (by omega) (by omega), show Int.toNat 3 = 3 from rfl, am_lt]
    · rw [am_I_ne2 (by omega), am_I_ne2 (by omega), am_I_ne2 (by omega), am_I_same]
    · rw [am_I_ne2 (by omega), am_I_ne2 (by omega), am_I_same]
    · rw [am_I_ne2 (by omega), am_I_same]
    · rw [am_I_same]
  | succ m ih =>
    intro i hi M S
    obtain ⟨M', v, r, S', f', e', e5⟩ := ih (i + 1) (by omega) (M := am_sI M 224 i (am_i 0)) (S.sI _ _ _)
    refine ⟨M', v, ?_, S', fr_tr (fr_sI (by omega)) (fr_mono f' (fun b k h => by omega)), fun k h1 h2 => ?_, e5⟩
    · rw [t155_77, am_br_ge (by omega) (by omega) (by omega) (by omega), if_neg (by omega), am_ob_p (kk_187 S), rr_187_45 S, am_gr_p, am_iw_p (kk_224 S) (by omega) (by omega) (by omega) (by omega), am_i_ix (by omega) (by omega), Int.toNat_natCast, am_lt, am_i_add]
      exact r
    · by_cases g : k = i
      · subst g
        rw [(f' _ _ (by omega)).1, am_I_same]
      · exact e' k (by omega) h2
