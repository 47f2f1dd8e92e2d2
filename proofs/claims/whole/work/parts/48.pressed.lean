/-! pressed. -/
theorem c_rows {L : Nat} {q : am_Pq} {M : am_M} (S : am_Sh L q M) {X : am_X} {Z : Nat → Nat → Int} (HZ : cWz M Z) (BZ : zB X Z) (hX8 : X 0 1 0 ≤ 8) {R : Nat} (hR : Z 4 0 = R) {Q : am_Qh} (HS : cS M 75 Q) {T : Int} {k : Nat} (hk : k < 100) (v1 : Value) :
    ∀ m r : Nat, r + m = R → ∀ v5 : Value, (rowsK Z Q k m r = 1 → ∃ v5', am_ev 50 598 30 [.ref 2, v1, .int (am_i T), .int (am_i k), .int (am_i r), v5] [] M = am_ev 50 598 14 [.ref 2, v1, .int (am_i T), .int (am_i ((k : Int) + 1)), .int (am_i R), v5'] [] M) ∧ (rowsK Z Q k m r = 0 → am_ev 50 598 30 [.ref 2, v1, .int (am_i T), .int (am_i k), .int (am_i r), v5] [] M = some (some (.int (am_i 0)), M)) := by
  have e9 := HZ.2.2.2.2.2.1
  have b3 := BZ.2.2.1
  obtain ⟨mm, s1, s2, s3⟩ := HS
  intro m
  induction m with
  | zero =>
    intro r hr v5
    have : r = R := by omega
    subst this
    refine ⟨fun _ => ⟨v5, ?_⟩, fun h => absurd (show (1 : Int) = 0 from h) (by decide)⟩
    rw [t50_30, am_ob_p (kk_2 S), e9, am_br_ge (by omega) (by omega) (by omega) (by omega), if_pos (by omega), am_i_add]
  | succ m ih =>
    intro r hr v5
    obtain ⟨b0, b1, b2⟩ := BZ.2.2.2.1 r (by omega)
    have u0 : (3 * (r : Int)).toNat = 3 * r := by omega
    have u1 : (3 * (r : Int) + 1).toNat = 3 * r + 1 := by omega
    have u2 : (3 * (r : Int) + 2).toNat = 3 * r + 2 := by omega
    have k0 := HZ.2.2.2.2.1 (3 * r) (by omega)
    have k1 := HZ.2.2.2.2.1 (3 * r + 1) (by omega)
    have k2 := HZ.2.2.2.2.1 (3 * r + 2) (by omega)
    have ek : rowsK Z Q k (m + 1) r = if Z 3 (3 * r) = k ∧ ¬ Q 4 (Z 3 (3 * r + 1)).toNat = Z 3 (3 * r + 2) then 0 else rowsK Z Q k m (r + 1) := rfl
    have eb := fbit_2 s1 (f := Z 3 (3 * r + 1)) (by omega) (by omega)
    have eq4 := s3 (Z 3 (3 * r + 1)).toNat (by omega)
    have e0 : am_ev 50 598 30 [.ref 2, v1, .int (am_i T), .int (am_i k), .int (am_i r), v5] [] M = if Z 3 (3 * r) = k then am_ev 50 598 57 [.ref 2, v1, .int (am_i T), .int (am_i k), .int (am_i r), v5] [.int (am_i 1)] M else am_ev 50 598 57 [.ref 2, v1, .int (am_i T), .int (am_i k), .int (am_i r), v5] [.int (am_i 0)] M := by
      rw [t50_30, am_ob_p (kk_2 S), e9, am_br_ge (by omega) (by omega) (by omega) (by omega), if_neg (by omega)]
      simp (disch := omega) only [am_ob_p (kk_2 S), rr_2_8 S, am_ix_p (kk_33 S), am_gr_p, am_i_ix, Int.toNat_zero, Int.toNat_one, Int.toNat_natCast, Int.reduceToNat, am_lt, am_i_add, am_i_sub, am_i_mul, u0, k0, am_br_ne]
    by_cases g : Z 3 (3 * r) = k
    · rw [if_pos g] at e0
      have e1 : am_ev 50 598 57 [.ref 2, v1, .int (am_i T), .int (am_i k), .int (am_i r), v5] [.int (am_i 1)] M = if Q 4 (Z 3 (3 * r + 1)).toNat = Z 3 (3 * r + 2) then am_ev 50 598 30 [.ref 2, v1, .int (am_i T), .int (am_i k), .int (am_i ((r : Int) + 1)), .int (am_i 1)] [] M else some (some (.int (am_i 0)), M) := by
        have bq : 0 ≤ Q 4 (Z 3 (3 * r + 1)).toNat ∧ Q 4 (Z 3 (3 * r + 1)).toNat ≤ 1 := by omega
        rw [t50_57, am_br_eq (by omega) (by omega) (by omega) (by omega), if_neg (by decide)]
        simp (disch := omega) only [am_ob_p (kk_2 S), rr_2_4 S, rr_2_8 S, am_ob_p (kk_75 S), am_ix_p (kk_33 S), am_gr_p, am_i_ix, Int.toNat_zero, Int.toNat_one, Int.toNat_natCast, Int.reduceToNat, am_lt, am_i_add, am_i_sub, am_i_mul, u1, k1, u2, k2, s2]
        rw [eb, eq4, am_br_eq (by omega) (by omega) (by omega) (by omega), am_tr_0]
      rw [e0, e1]
      by_cases g2 : Q 4 (Z 3 (3 * r + 1)).toNat = Z 3 (3 * r + 2)
      · rw [if_pos g2, ek, if_neg (fun h => h.2 g2)]
        exact ih (r + 1) (by omega) (.int (am_i 1))
      · rw [if_neg g2, ek, if_pos ⟨g, g2⟩]
        exact ⟨fun h => absurd h (by decide), fun _ => rfl⟩
    · rw [if_neg g] at e0
      rw [e0, ek, if_neg (fun h => g h.1), t50_57, am_br_eq (by omega) (by omega) (by omega) (by omega), if_pos rfl, am_i_add]
      exact ih (r + 1) (by omega) (.int (am_i 0))
theorem c_isAsTold {L : Nat} {q : am_Pq} {M : am_M} {W : am_Wo} {b : Nat} (hq : qok q) (S : am_Sh L q M) (HC : cWo q M W b) (B : wB W) (hb : b < 1000000000) {P : Nat} (hP : P < 2 ^ nP (wX W)) {n : Nat} (hn : n ≤ 24) (hn2 : wA W 0 0 0 + n ≤ 23999) :
    ∃ M', am_cl 50 598 [.ref 2, .int (am_i P), .int (am_i n)] M = some (some (.int (am_i (asT W P n 0))), M') ∧ am_Sh L (q.1, q.2.1, q.2.2.1, q.2.2.1) M' ∧ fr pB M M' := by
  have c75 : isC 75 := Or.inr rfl
  have hh := qok_h hq
  have hh' : q.2.2.1 = 4 ∨ q.2.2.1 = 38 := hh
  have B1 := B.1
  have BA := B.2.2.2.1
  have BZ := B.2.2.2.2.2.2
  have hF8 := hB_F B1
  have BP := aB_aP BA (P := (P : Int)) (by omega) (by omega)
  have b3 := BZ.2.2.1
  obtain ⟨R, hR⟩ : ∃ R : Nat, wZ W 4 0 = R := ⟨(wZ W 4 0).toNat, by omega⟩
  have eR : (wZ W 4 0).toNat = R := by omega
  obtain ⟨M1, r1, S1, f1, HA1, HK1, HQ1⟩ := c_begin S HC.2.2.2.1 HC.2.2.2.2.1 (P : Int) 595
  have key : ∀ m k : Nat, k + m = n → ∀ (M1 : am_M) (v1 v4 v5 : Value), am_Sh L (q.1, q.2.1, q.2.2.1, q.2.2.1) M1 → fr pB M M1 → cA M1 76 (hrsP W P k).1 → cK M1 76 (hrsP W P k).2.2 (b + 5 * k) → cQ M1 75 (hrsP W P k).2.1 →
      ∃ M', am_ev 50 598 14 [.ref 2, v1, .int (am_i n), .int (am_i k), v4, v5] [] M1 = some (some (.int (am_i (asT W P m k))), M') ∧ am_Sh L (q.1, q.2.1, q.2.2.1, q.2.2.1) M' ∧ fr pB M M' := by
    intro m
    induction m with
    | zero =>
      intro k hk M1 v1 v4 v5 S1 f1 HA1 HK1 HQ1
      refine ⟨M1, ?_, S1, f1⟩
      rw [t50_14, am_br_ge (by omega) (by omega) (by omega) (by omega), if_pos (by omega), am_tr_1]
      rfl
    | succ m ih =>
      intro k hk M1 v1 v4 v5 S1 f1 HA1 HK1 HQ1
      have hbd := (hours_bd (G := wG W) (s := (aP (wA W) P, qz, wK W)) B1 BP k (by dsimp only; rw [aP_t]; omega)).1
      have HC1 := cWo_mv HC hq B1 (q' := (q.1, q.2.1, q.2.2.1, q.2.2.1)) rfl (fr_mono f1 (fun b k h => (pB_s h).1))
      obtain ⟨M2, r2, S2, f2, Hs2⟩ := c_passHour (s := hrsP W P k) (h := q.2.2.1) S1 c75 hh (rr_75_0 S1) HC1.1 HC1.2.2.1 HA1 HK1 HQ1 (by omega) B1 B.2.2.1 hbd 592
      have f12 : fr pB M M2 := fr_tr f1 (fr_mono f2 (fun b k h => h))
      have HC2 := cWo_mv HC hq B1 (q' := (q.1, q.2.1, q.2.2.1, q.2.2.1)) rfl (fr_mono f12 (fun b k h => (pB_s h).1))
      obtain ⟨y1, y2⟩ := c_rows S2 HC2.2.2.2.2.2.2.1 BZ (by omega) hR (Q := (hrsP W P (k + 1)).2.1) Hs2.2.2.2 (T := (n : Int)) (k := k) (by omega) v1 R 0 (by omega) v5
      have e : am_ev 50 598 14 [.ref 2, v1, .int (am_i n), .int (am_i k), v4, v5] [] M1 = am_ev 50 598 30 [.ref 2, v1, .int (am_i n), .int (am_i k), .int (am_i ((0 : Nat) : Int)), v5] [] M2 := by
        rw [t50_14, am_br_ge (by omega) (by omega) (by omega) (by omega), if_neg (by omega), am_ob_p (kk_2 S1), rr_2_4 S1, am_gr_p, am_ob_p (kk_75 S1), r2, am_bI_p]
        rfl
      have ea : asT W P (m + 1) k = if rowsK (wZ W) (hrsP W P (k + 1)).2.1 k R 0 = 1 then asT W P m (k + 1) else 0 := by rw [← eR]; rfl
      rcases rowsK_01 (wZ W) (hrsP W P (k + 1)).2.1 k R 0 with g | g
      · refine ⟨M2, ?_, S2, f12⟩
        rw [e, y2 g, ea, if_neg (by omega)]
      · obtain ⟨v5', y3⟩ := y1 g
        obtain ⟨M', r, hR'⟩ := ih (k + 1) (by omega) M2 v1 (.int (am_i R)) v5' S2 f12 Hs2.1 Hs2.2.1 Hs2.2.2.1
        refine ⟨M', ?_, hR'⟩
        rw [e, y3, ea, if_pos g]
        exact r
  obtain ⟨M', r, hR'⟩ := key n 0 (by omega) M1 (.int (am_i P)) .null .null S1 f1 HA1 HK1 HQ1
  refine ⟨M', ?_, hR'⟩
  rw [t50, am_ob_p (kk_2 S), rr_2_4 S, am_gr_p, am_ob_p (kk_2 S), rr_2_3 S, am_gr_p, am_ob_p (kk_75 S), r1, am_bV_p]
  exact r
theorem m_rows {L : Nat} {q : am_Pq} {M : am_M} (S : am_Sh L q M) {X : am_X} (HX : mH M X) (B : hB X) {Z : Nat → Nat → Int} (BZ : zB X Z) {R : Nat} (hR : Z 4 0 = R) (h65 : am_I M 187 65 = am_i R) (h235 : ∀ k, k < 48 → am_I M 235 k = am_i (Z 3 k)) {Q : am_Qh} (HQ : ∀ p, p < nP X → am_I M 231 p = am_i (Q 2 p)) (h24 : I24 (nP X) Q) {T : Int} {k : Nat} (hk : k < 100) :
    ∀ m r : Nat, r + m = R → ∀ (v1 : Value) (fl : Int), (fl = 0 ∨ fl = 1) → ∃ v1', am_ev 220 598 33 [.ref 187, v1, .int (am_i fl), .int (am_i T), .int (am_i k), .int (am_i r)] [] M = am_ev 220 598 15 [.ref 187, v1', .int (am_i (if fl = 1 then rowsK Z Q k m r else 0)), .int (am_i T), .int (am_i ((k : Int) + 1)), .int (am_i R)] [] M := by
  have b3 := BZ.2.2.1
  have hF8 := hB_F B
  intro m
  induction m with
  | zero =>
    intro r hr v1 fl hfl
    have : r = R := by omega
    subst this
    refine ⟨v1, ?_⟩
    rw [t220_33, am_ob_p (kk_187 S), h65, am_br_ge (by omega) (by omega) (by omega) (by omega), if_pos (by omega), am_i_add]
    rcases hfl with g | g
    · subst g; rfl
    · subst g; rfl
  | succ m ih =>
    intro r hr v1 fl hfl
    obtain ⟨b0, b1, b2⟩ := BZ.2.2.2.1 r (by omega)
    have u0 : (3 * (r : Int)).toNat = 3 * r := by omega
    have u1 : (3 * (r : Int) + 1).toNat = 3 * r + 1 := by omega
    have u2 : (3 * (r : Int) + 2).toNat = 3 * r + 2 := by omega
    have k0 := h235 (3 * r) (by omega)
    have k1 := h235 (3 * r + 1) (by omega)
    have k2 := h235 (3 * r + 2) (by omega)
    have ek : rowsK Z Q k (m + 1) r = if Z 3 (3 * r) = k ∧ ¬ Q 4 (Z 3 (3 * r + 1)).toNat = Z 3 (3 * r + 2) then 0 else rowsK Z Q k m (r + 1) := rfl
    have es := m_isSeenNow S HX B HQ h24 (f := Z 3 (3 * r + 1)) (by omega) (by omega) 596
    have b4 := h24.1 (Z 3 (3 * r + 1)).toNat
    have e0 : am_ev 220 598 33 [.ref 187, v1, .int (am_i fl), .int (am_i T), .int (am_i k), .int (am_i r)] [] M = if Z 3 (3 * r) = k ∧ ¬ Q 4 (Z 3 (3 * r + 1)).toNat = Z 3 (3 * r + 2) then am_ev 220 598 33 [.ref 187, am_kl v1, .int (am_i 0), .int (am_i T), .int (am_i k), .int (am_i ((r : Int) + 1))] [] M else am_ev 220 598 33 [.ref 187, v1, .int (am_i fl), .int (am_i T), .int (am_i k), .int (am_i ((r : Int) + 1))] [] M := by
      rw [t220_33, am_ob_p (kk_187 S), h65, am_br_ge (by omega) (by omega) (by omega) (by omega), if_neg (by omega)]
      simp (disch := omega) only [am_ob_p (kk_187 S), rr_187_66 S, am_ix_p (kk_235 S), am_gr_p, am_i_ix, Int.toNat_zero, Int.toNat_one, Int.toNat_natCast, Int.reduceToNat, am_lt, am_i_add, am_i_sub, am_i_mul, u0, k0, u1, k1, am_br_ne]
      by_cases g : Z 3 (3 * r) = k
      · rw [if_pos g, es, am_bI_p]
        simp (disch := omega) only [am_ob_p (kk_187 S), rr_187_66 S, am_ix_p (kk_235 S), am_gr_p, am_i_ix, Int.toNat_zero, Int.toNat_one, Int.toNat_natCast, Int.reduceToNat, am_lt, am_i_add, am_i_sub, am_i_mul, u2, k2, am_br_ne, am_br_eq]
        by_cases g2 : Z 3 (3 * r + 2) = 1
        · rw [if_pos g2]
          by_cases g3 : Q 4 (Z 3 (3 * r + 1)).toNat = 1
          · rw [if_pos g3, if_neg (fun h => h.2 (by omega))]
          · rw [if_neg g3, if_pos ⟨g, by omega⟩]
        · rw [if_neg g2]
          by_cases g3 : Q 4 (Z 3 (3 * r + 1)).toNat = 0
          · rw [if_pos g3, if_neg (fun h => h.2 (by omega))]
          · rw [if_neg g3, if_pos ⟨g, by omega⟩]
      · rw [if_neg g, if_neg (fun h => g h.1)]
    by_cases g : Z 3 (3 * r) = k ∧ ¬ Q 4 (Z 3 (3 * r + 1)).toNat = Z 3 (3 * r + 2)
    · obtain ⟨v1', hv⟩ := ih (r + 1) (by omega) (am_kl v1) 0 (Or.inl rfl)
      refine ⟨v1', ?_⟩
      rw [e0, if_pos g, ek, if_pos g, ite_self]
      rw [if_neg (show ¬ (0 : Int) = 1 by decide)] at hv
      exact hv
    · obtain ⟨v1', hv⟩ := ih (r + 1) (by omega) v1 fl hfl
      refine ⟨v1', ?_⟩
      rw [e0, if_neg g, ek, if_neg g]
      exact hv
theorem mQ_any (M : am_M) : ∃ Q : am_Qh, mQ M 0 Q := ⟨fun i p => if i = 0 then (am_L M 232 p).toInt else (am_I M 233 p).toInt, fun p _ => (Int64.ofInt_toInt (am_L M 232 p)).symm, fun p _ => (am_i_of (am_I M 233 p)).symm, fun p hp => absurd hp (by omega)⟩
theorem m_isAsTold {L : Nat} {q : am_Pq} {M : am_M} {W : am_Wo} (T : mTh L q M W (wA W)) (B : wB W) {R : Nat} (hR : wZ W 4 0 = R) (h65 : am_I M 187 65 = am_i R) (h235 : ∀ k, k < 48 → am_I M 235 k = am_i (wZ W 3 k)) {P : Nat} (hP : P < 2 ^ nP (wX W)) {n : Nat} (hn : toldT (wZ W) R = n) (hn2 : wA W 0 0 0 + n ≤ 23999) :
    ∃ M', am_cl 220 598 [.ref 187, .int (am_i P)] M = some (some (.int (am_i (asT W P n 0))), M') ∧ mTh L q M' W (wA W) ∧ fr pR M M' := by
  have B1 := B.1
  have BA := B.2.2.2.1
  have BZ := B.2.2.2.2.2.2
  have b3 := BZ.2.2.1
  have eR : (wZ W 4 0).toNat = R := by omega
  have hn24 := toldT_bd BZ R (by omega)
  have BP := aB_aP BA (P := (P : Int)) (by omega) (by omega)
  have el := m_lastHour T.1 BZ hR h65 h235 597
  rw [hn] at el
  obtain ⟨M2, r2, f2, T2⟩ := mTh_press2 T B BA (P := (P : Int)) (by omega) (by omega) 596
  have key : ∀ m k : Nat, k + m = n → ∀ (M1 : am_M) (v1 v5 : Value) (fl : Int), (fl = 0 ∨ fl = 1) → mTh L q M1 W (hrsP W P k).1 → (∃ Q, mQ M1 0 Q) → fr pR M M1 →
      ∃ M', am_ev 220 598 15 [.ref 187, v1, .int (am_i fl), .int (am_i ((n : Int) - 1)), .int (am_i k), v5] [] M1 = some (some (.int (am_i (if fl = 1 then asT W P m k else 0))), M') ∧ mTh L q M' W (wA W) ∧ fr pR M M' := by
    intro m
    induction m with
    | zero =>
      intro k hk M1 v1 v5 fl hfl T1 hQ f1
      obtain ⟨M4, r4, f4, T4⟩ := mTh_anew T1 B 597
      refine ⟨M4, ?_, T4, fr_tr f1 (fr_mono f4 (fun b k h => pR_229 h))⟩
      rw [t220_15, am_br_gt (by omega) (by omega) (by omega) (by omega), if_pos (by omega), am_ob_p (kk_187 T1.1), r4, am_bV_p, am_tr_b hfl]
      rcases hfl with g | g
      · subst g; rfl
      · subst g; rfl
    | succ m ih =>
      intro k hk M1 v1 v5 fl hfl T1 hQ f1
      rw [t220_15, am_br_gt (by omega) (by omega) (by omega) (by omega), if_neg (by omega), am_br_eq (by omega) (by omega) (by omega) (by omega)]
      rcases hfl with g | g
      · obtain ⟨M4, r4, f4, T4⟩ := mTh_anew T1 B 597
        refine ⟨M4, ?_, T4, fr_tr f1 (fr_mono f4 (fun b k h => pR_229 h))⟩
        subst g
        rw [if_pos rfl, am_ob_p (kk_187 T1.1), r4, am_bV_p, am_tr_0]
        rfl
      · subst g
        rw [if_neg (by decide), if_pos rfl]
        have hbd := (hours_bd (G := wG W) (s := (aP (wA W) P, qz, wK W)) B1 BP k (by dsimp only; rw [aP_t]; omega)).1
        obtain ⟨Q, HQ⟩ := hQ
        obtain ⟨S3, HX3, HG3, HA3, HS3, h60⟩ := T1
        obtain ⟨M4, r4, S4, f4, Hs4⟩ := m_hourGoes (s := ((hrsP W P k).1, Q, (hrsP W P k).2.2)) (th := 1) S3 HX3 HG3 HA3 (fun h => absurd h (by decide)) HQ h60 (by decide) B1 B.2.2.1 hbd 591
        have hs := hour_sim (X := wX W) (G := wG W) (s := ((hrsP W P k).1, Q, (hrsP W P k).2.2)) (s' := hrsP W P k) rfl rfl
        have h24 := hour_24 (X := wX W) (G := wG W) B1 (s := ((hrsP W P k).1, Q, (hrsP W P k).2.2)) hbd
        have HX4 : mH M4 (wX W) := mH_mv HX3 B1 (fun b k k1 k2 k3 => (f4 b k (by unfold pH; omega)).1)
        have T4 : mTh L q M4 W (hrsP W P (k + 1)).1 := ⟨S4, HX4, mG_mv HG3 (fun b k k1 k2 k3 k4 => (f4 b k (by unfold pH; omega)).1), by have := Hs4.1; rw [hs.1] at this; exact this, mAs_mv HS3 (fun k => (f4 230 k (by unfold pH; omega)).1), Hs4.2.2.2⟩
        have f14 : fr pR M M4 := fr_tr f1 (fr_mono f4 (fun b k h => pH_s h))
        have g65 : am_I M4 187 65 = am_i R := by rw [(f14 187 65 (by unfold pR sM; omega)).1]; exact h65
        have g235 : ∀ k, k < 48 → am_I M4 235 k = am_i (wZ W 3 k) := fun k hk => by rw [(f14 235 k (by unfold pR sM; omega)).1]; exact h235 k hk
        obtain ⟨v1', y⟩ := m_rows S4 HX4 B1 BZ hR g65 g235 Hs4.2.2.1.2.2 h24 (T := (n : Int) - 1) (k := k) (by omega) R 0 (by omega) v1 1 (Or.inr rfl)
        rw [if_pos rfl, rowsK_congr hs.2.2.2] at y
        have ea : asT W P (m + 1) k = if rowsK (wZ W) (hrsP W P (k + 1)).2.1 k R 0 = 1 then asT W P m (k + 1) else 0 := by rw [← eR]; rfl
        obtain ⟨M', r, hR'⟩ := ih (k + 1) (by omega) M4 v1' (.int (am_i R)) (rowsK (wZ W) (hour (wX W) (wG W) (hrsP W P k)).2.1 k R 0) (rowsK_01 _ _ _ _ _) T4 ⟨_, Hs4.2.2.1.1, Hs4.2.2.1.2.1, fun p hp => absurd hp (by omega)⟩ f14
        refine ⟨M', ?_, hR'⟩
        rw [am_ob_p (kk_187 S3), r4, am_bI_p, ea]
        exact y.trans r
  obtain ⟨M', r, hR'⟩ := key n 0 (by omega) M2 (.int (am_i P)) .null 1 (Or.inr rfl) T2 (mQ_any M2) (fr_mono f2 (fun b k h => pR_229 h))
  refine ⟨M', ?_, hR'⟩
  rw [if_pos rfl] at r
  rw [t220, am_ob_p (kk_187 T.1), el, am_bI_p, am_ob_p (kk_187 T.1), r2, am_bV_p]
  exact r
