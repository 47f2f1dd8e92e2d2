/-! The reference: films. -/
theorem m_lkF {L : Nat} {q : am_Pq} {Z : Nat → Nat → Int} {n : Nat} {M : am_M} {e : Int × Int} (H : mFa L q Z n M e) (d : Nat) : ∃ M' x, am_cl 133 d [.ref 187] M = some (some (.int (am_i x)), M') ∧ (-2147483648 ≤ x ∧ x < 2147483648) ∧ mFa L q Z n M' e ∧ fr (fun b k => b = 187 ∧ k = 2) M M' := by
  obtain ⟨S, he, e5, e6, ⟨a, ha, e2⟩, e3, hn, hT, hw, hz⟩ := H
  obtain ⟨M', r, S', f', e2'⟩ := m_look' hz hn d (n - a) a rfl ha M S hT e2 e3
  refine ⟨M', _, r, ?_, ⟨S', he, ((f' _ _ (by omega)).1).trans e5, ((f' _ _ (by omega)).1).trans e6, ⟨sk Z n a, (sk_bd Z n a).2 ha, e2'⟩, ((f' _ _ (by omega)).1).trans e3, hn, fun k hk => ((f' _ _ (by omega)).1).trans (hT k hk), mWw_mv hw (fun b k h => (f' b k (by omega)).1), hz⟩, f'⟩
  have := hz (sk Z n a)
  split <;> omega
theorem m_fEnd {L : Nat} {q : am_Pq} {Z : Nat → Nat → Int} {n : Nat} {M : am_M} {e : Int × Int} (H : mFa L q Z n M e) (d : Nat) (v1 v3 v7 v8 : Value) (y2 : Int64) (x4 x5 x6 : Int32) : am_ev 149 (d + 1) 83 [.ref 187, v1, .long y2, v3, .int x4, .int x5, .int x6, v7, v8] [] M = am_ev 149 (d + 1) 177 [.ref 187, v1, .long y2, v3, .int x4, .int x5, .int x6, v7, v8] [] M := by
  rw [t149_83, am_ob_p (kk_187 H.1), (m_bad H).1]
/-- the number of a row -/
theorem m_row134 {L : Nat} {q : am_Pq} {Z : Nat → Nat → Int} {n : Nat} {M : am_M} {st : am_PS} (H : mS L q Z n M st) {f k : Nat} (hf : f < 8) (hk : isE st = false → k < 6) (d : Nat) (v1 v3 v6 v8 : Value) (y2 : Int64) (x4 : Int32) : ∃ M' x6 v8', am_ev 149 (d + 4 + 1) 134 [.ref 187, v1, .long y2, v3, .int x4, .int (am_i (f : Int)), v6, .int (am_i (k : Int)), v8] [] M = am_ev 149 (d + 4 + 1) 83 [.ref 187, v1, .long y2, v3, .int x4, .int (am_i (f : Int)), .int x6, .int (am_i (k : Int)), v8'] [] M' ∧ fr (fun b j => rR b j ∨ (b = 222 ∧ j = 6 * f + k ∧ k < 6)) M M' ∧ mS L q Z n M' (tkN Z n 1 9 st).1 ∧ (∀ s t l, (tkN Z n 1 9 st).1 = .inr (s, t, l) → x6 = am_i (if s < n then ltr (Z 0 s) else 0) ∧ am_I M' 222 (6 * f + k) = am_i (tkN Z n 1 9 st).2) := by
  obtain ⟨M1, v, r1, H1, ev, bv1, bv2, f1⟩ := m_num H (lo := 1) (hi := 9) (by omega) (by omega) (d + 3)
  have h0 := t149_134 (d + 4) M 187 v1 v3 v6 v8 y2 x4 (am_i (f : Int)) (am_i (k : Int))
  have S1 := (mS_S H1).1
  rw [am_ob_p (kk_187 (mS_S H).1), r1, am_bI_p, am_ob_p (kk_187 S1)] at h0
  cases h1 : (tkN Z n 1 9 st).1 with
  | inl e =>
    rw [h1] at H1
    obtain ⟨M2, x, r2, hx, H2, f2⟩ := m_lkF H1 (d + 4)
    rw [(m_bad H1).1, am_ob_p (kk_187 S1), r2, am_bI_p, m_isLetter hx.1 hx.2, am_bI_p] at h0
    exact ⟨M2, _, _, h0, fr_tr (fr_mono f1 (fun b j h => Or.inl h)) (fr_mono f2 (fun b j h => Or.inl (by unfold rR; omega))), H2, fun s t l h => by cases h⟩
  | inr x =>
    obtain ⟨s, t, l⟩ := x
    obtain ⟨a1, a2, e1⟩ := tkN_e h1
    have hk6 : k < 6 := hk (by rw [e1]; rfl)
    rw [h1] at H1
    have ev := ev (by rw [h1]; rfl)
    have H2 : mP L q Z n (am_sI M1 222 (6 * f + k) (am_i v)) s t := mP_mv H1 (S1.sI _ _ _) (fr_sI (by unfold nR; omega))
    obtain ⟨M3, r3, H3, f3⟩ := m_lk H2 (d + 4)
    have hb := (mP_S H1).2.2.2.2 s
    have S2 : am_Sh L q (am_sI M1 222 (6 * f + k) (am_i v)) := S1.sI _ _ _
    rw [(m_ok H1).1, am_ob_p (kk_187 S1), rr_187_43 S1, am_gr_p, am_i_mul, am_i_add, show (6 : Int) * (f : Int) + (k : Int) = ((6 * f + k : Nat) : Int) by omega, am_iw_p (kk_222 S1) (by omega) (by omega) (by omega) (by omega), am_i_ix (by omega) (by omega), Int.toNat_natCast, am_lt, am_ob_p (kk_187 S2), r3, am_bI_p, m_isLetter (by split <;> omega) (by split <;> omega), am_bI_p] at h0
    refine ⟨M3, _, _, h0, fr_tr (fr_mono f1 (fun b j h => Or.inl h)) (fr_tr (fr_sI (Or.inr ⟨rfl, rfl, hk6⟩)) (fr_mono f3 (fun b j h => Or.inl (by unfold rR; omega)))), mQ_P H3, fun s' t' l' h => ?_⟩
    have h := Sum.inr.inj h
    rw [Prod.mk.injEq, Prod.mk.injEq] at h
    refine ⟨?_, ?_⟩
    · rw [← h.1]
      by_cases g : s < n
      · rw [if_pos g, if_pos g]
      · rw [if_neg g, if_neg g]; rfl
    · rw [(f3 _ _ (by omega)).1, am_I_same, ev]
theorem ltr_01 (x : Int) : ltr x = 0 ∨ ltr x = 1 := by
  unfold ltr
  split
  · exact Or.inr rfl
  · exact Or.inl rfl
/-- one row -/
theorem m_row {L : Nat} {q : am_Pq} {Z : Nat → Nat → Int} {n : Nat} {M : am_M} {st : am_PS} (H : mS L q Z n M st) {X : am_X} {N : Nat → Nat → List Int} (HN : mNm M X N) {f : Nat} (hf : f < 8) {r : Nat → Int} (hr : isE st = false → ∀ k, k < 6 → am_I M 222 (6 * f + k) = am_i (r k) ∧ 0 ≤ r k ∧ r k ≤ 9) (d : Nat) (v1 v3 v7 v8 : Value) (y2 : Int64) (x4 : Int32) {x6 : Int} (hx6 : x6 = 1) : ∃ M' x6' w6 w7 w8, am_ev 149 (d + 4 + 1) 83 [.ref 187, v1, .long y2, v3, .int x4, .int (am_i (f : Int)), .int (am_i x6), v7, v8] [] M = am_ev 149 (d + 4 + 1) w6 [.ref 187, v1, .long y2, v3, .int x4, .int (am_i (f : Int)), .int x6', w7, w8] [] M' ∧ (w6 = 83 ∨ w6 = 177 ∧ isE st = true) ∧ fr (fun b j => rR b j ∨ (b = 222 ∧ 6 * f ≤ j ∧ j < 6 * f + 6)) M M' ∧ mS L q Z n M' (fkB Z n N (nM X 0) st r).1 ∧ (∀ s t l, (fkB Z n N (nM X 0) st r).1 = .inr (s, t, l) → x6' = am_i (if s < n then ltr (Z 0 s) else 0) ∧ ∀ k, k < 6 → am_I M' 222 (6 * f + k) = am_i (fkR Z n N (nM X 0) st r k) ∧ 0 ≤ fkR Z n N (nM X 0) st r k ∧ fkR Z n N (nM X 0) st r k ≤ 9) := by
  subst hx6
  match st, H, hr with
  | .inl e, H, hr =>
    refine ⟨M, _, 177, v7, v8, m_fEnd H (d + 4) v1 v3 v7 v8 y2 x4 _ _, Or.inr ⟨rfl, rfl⟩, fr_rfl _ _, H, fun s t l h => (by cases h)⟩
  | .inr (s0, t0, l0), H, hr =>
    have hr := hr rfl
    have S := (mS_S H).1
    obtain ⟨M1, a, r1, H1, ba, ea, f1⟩ := m_oneOf H HN (s := 0) (by omega) d
    have r1 : am_cl 146 (d + 4) [.ref 187, .int (am_i 0)] M = some (some (.int (am_i a)), M1) := r1
    have h0 := t149_83 (d + 4) M 187 v1 v3 v7 v8 y2 x4 (am_i (f : Int)) (am_i 1)
    have S1 := (mS_S H1).1
    have H' : mP L q Z n M s0 t0 := H
    rw [am_ob_p (kk_187 S), (m_ok H').1, am_br_eq (by omega) (by omega) (by omega) (by omega), if_neg (by omega), am_ob_p (kk_187 S), r1, am_bI_p, am_ob_p (kk_187 S1)] at h0
    obtain ⟨k, hk⟩ : ∃ k : Nat, a = (k : Int) := ⟨a.toNat, by omega⟩
    obtain ⟨st1, hst1⟩ : ∃ st1, st1 = (if isE (knS Z n N 0 (nM X 0) (.inr (s0, t0, l0))).1 = false ∧ 0 < r (knS Z n N 0 (nM X 0) (.inr (s0, t0, l0))).2.toNat then (.inl (3, psn (.inr (s0, t0, l0))) : am_PS) else (knS Z n N 0 (nM X 0) (.inr (s0, t0, l0))).1) := ⟨_, rfl⟩
    have hB : fkB Z n N (nM X 0) (.inr (s0, t0, l0)) r = tkN Z n 1 9 st1 := by unfold fkB; rw [hst1]
    have c06 := HN.2.2.1
    have c0 := (xB_c HN.2.2 (s := 0) (by omega)).2.2
    obtain ⟨M2, h0, H2, f2, hk2⟩ : ∃ M2, am_ev 149 (d + 4 + 1) 83 [.ref 187, v1, .long y2, v3, .int x4, .int (am_i (f : Int)), .int (am_i 1), v7, v8] [] M = am_ev 149 (d + 4 + 1) 134 [.ref 187, v1, .long y2, v3, .int x4, .int (am_i (f : Int)), .int (am_i 1), .int (am_i (k : Int)), v8] [] M2 ∧ mS L q Z n M2 st1 ∧ fr rR M M2 ∧ (isE st1 = false → k < 6 ∧ (knS Z n N 0 (nM X 0) (.inr (s0, t0, l0))).2 = (k : Int)) := by
      cases hx : (knS Z n N 0 (nM X 0) (.inr (s0, t0, l0))).1 with
      | inl e =>
        rw [hx] at H1 hst1
        rw [(m_bad H1).1, hk] at h0
        rw [if_neg (fun h => absurd (show true = false from h.1) (by decide))] at hst1
        subst hst1
        exact ⟨M1, h0, H1, f1, fun h => absurd (show true = false from h) (by decide)⟩
      | inr x =>
        obtain ⟨s, t, l⟩ := x
        have ea := ea (by rw [hx]; rfl)
        rw [hx] at H1 hst1
        have hk6 : k < 6 := by omega
        have hkt : (knS Z n N 0 (nM X 0) (.inr (s0, t0, l0))).2.toNat = k := by omega
        have hrk := hr k hk6
        have ek : am_I M1 222 (6 * f + k) = am_i (r k) := ((f1 _ _ (by unfold rR; omega)).1).trans hrk.1
        rw [(m_ok H1).1, am_ob_p (kk_187 S1), rr_187_43 S1, am_gr_p, hk, am_i_mul, am_i_add, show (6 : Int) * (f : Int) + (k : Int) = ((6 * f + k : Nat) : Int) by omega, am_ix_p (kk_222 S1) (by omega) (by omega) (by omega), am_i_ix (by omega) (by omega), Int.toNat_natCast, ek, am_br_le (by omega) (by omega) (by omega) (by omega)] at h0
        rw [hkt] at hst1
        by_cases g3 : r k ≤ 0
        · rw [if_pos g3] at h0
          rw [if_neg (fun h => by omega)] at hst1
          subst hst1
          exact ⟨M1, h0, H1, f1, fun _ => ⟨hk6, by omega⟩⟩
        · obtain ⟨M3, r3, H3, f3⟩ := m_fail H1 (c := 3) (p := psn (.inr (s0, t0, l0))) (by omega) (d + 4)
          rw [if_neg g3, am_ob_p (kk_187 S1), am_ob_p (kk_187 S1), ea.2.2, r3, am_bV_p] at h0
          rw [if_pos ⟨rfl, by omega⟩] at hst1
          subst hst1
          exact ⟨M3, h0, H3, fr_tr f1 (fr_mono f3 (fun b j h => by unfold rR; omega)), fun h => absurd (show true = false from h) (by decide)⟩
    obtain ⟨M4, x6', v8', r4, f4, H4, e4⟩ := m_row134 H2 hf (k := k) (fun h => (hk2 h).1) d v1 v3 (.int (am_i 1)) v8 y2 x4
    rw [r4] at h0
    refine ⟨M4, x6', 83, _, _, h0, Or.inl rfl, fr_tr (fr_mono f2 (fun b j h => Or.inl h)) (fr_mono f4 (fun b j h => by
      rcases h with h | h
      · exact Or.inl h
      · exact Or.inr (by omega))), by rw [hB]; exact H4, fun s t l h => ?_⟩
    rw [hB] at h
    obtain ⟨e5, e6⟩ := e4 s t l h
    refine ⟨e5, fun i hi => ?_⟩
    obtain ⟨a1, a2, e1⟩ := tkN_e h
    have hk3 := hk2 (by rw [e1]; rfl)
    have hF : fkR Z n N (nM X 0) (.inr (s0, t0, l0)) r i = if i = k then (tkN Z n 1 9 st1).2 else r i := by
      unfold fkR
      rw [hk3.2, Int.toNat_natCast, hB]
    rw [hF]
    by_cases g5 : i = k
    · rw [if_pos g5, g5]
      have b1 : 1 ≤ (tkN Z n 1 9 st1).2 := tkN_lo
      have b2 : (tkN Z n 1 9 st1).2 ≤ 9 := tkN_hi (by omega)
      exact ⟨e6, by omega, b2⟩
    · rw [if_neg g5, (f4 _ _ (fun h => by
        rcases h with h | h
        · unfold rR at h; omega
        · omega)).1, (f2 _ _ (by unfold rR; omega)).1]
      exact hr i hi
