/-! seed, undo, hours, show. -/
theorem m_refuses {L : Nat} {q : am_Pq} {M : am_M} (S : am_Sh L q M) {Z : Nat → Nat → Int} (H : mWz M Z) {n : Nat} (hn : n < 6) (d : Nat) : am_cl 226 d [.ref 187, .int (am_i n)] M = some (some (.int (am_i (-1))), am_sI M 189 n (am_i (Z 7 n + 1))) := by
  have k9 := H.2.2.2.2.2.2.2.2.1 n hn
  rw [t226]
  simp (disch := omega) only [am_ob_p (kk_187 S), rr_187_9 S, am_ix_p (kk_189 S), am_iw_p (kk_189 S), am_gr_p, am_i_ix, Int.toNat_zero, Int.toNat_one, Int.toNat_natCast, Int.reduceToNat, am_lt, am_i_add, am_i_sub, am_i_mul, k9]
theorem call_seed {L : Nat} {xs : Nat → Int32} {M : am_M} {W : am_Wo} {b : Nat} (R : Rel L xs M W b) (x : Int32) : Call L xs 31 228 [.int x] M b := by
  obtain ⟨q, hq, S, HC, HM, B, h0⟩ := R
  obtain ⟨z, rfl, z1, z2⟩ := int_of x
  have B1 := B.1
  by_cases g : 0 ≤ z
  · have f1 : fr (fun b k => (sC q b k ∨ zC b k) ∧ b < 187) M (am_sI M 2 15 (am_i z)) := fr_sI ⟨Or.inr (Or.inr (Or.inr (Or.inr (Or.inr (Or.inl ⟨rfl, by omega⟩))))), by decide⟩
    have HM1 := mWo_mv HM B1 (fr_mono f1 (fun b k h => sM_lt h.2))
    have S1 := S.sI 2 15 (am_i z)
    have f2 : fr (fun b k => (sM b k ∨ zM b k) ∧ 187 ≤ b) (am_sI M 2 15 (am_i z)) (am_sL (am_sI M 2 15 (am_i z)) 187 70 (am_l z)) := fr_sL ⟨Or.inr (Or.inr (Or.inr (Or.inr (Or.inr ⟨rfl, by omega⟩)))), by decide⟩
    have e : ∀ a b, a ≠ 8 → uZ (wZ W) 8 0 z a b = wZ W a b := fun a b h => uZ_ne (fun g => h g.1)
    refine Call_Z (v := .int (am_i 1)) (Z := uZ (wZ W) 8 0 z) (iv _) hq HC HM B h0 ?_ f1 ?_ hq rfl ?_ f2 ?_ ?_ (S1.sL _ _ _)
    · rw [t31, am_br_ge (by omega) (by omega) (by omega) (by omega), if_pos g, am_ob_p (kk_2 S), am_lt, am_tr_1]
    · obtain ⟨k1, k2, k3, k4, k5, k6, k7, k8, k9, k10⟩ := HC.2.2.2.2.2.2.1
      refine ⟨fun k hk => ?_, ?_, ?_, ?_, fun k hk => ?_, ?_, fun k hk => ?_, ?_, fun k hk => ?_, ?_⟩
      · rw [am_I_ne1 (by omega), e _ _ (by decide)]; exact k1 k hk
      · rw [am_I_ne2 (by omega), e _ _ (by decide)]; exact k2
      · rw [am_I_ne1 (by omega), e _ _ (by decide)]; exact k3
      · rw [am_I_ne1 (by omega), e _ _ (by decide)]; exact k4
      · rw [am_I_ne1 (by omega), e _ _ (by decide)]; exact k5 k hk
      · rw [am_I_ne2 (by omega), e _ _ (by decide)]; exact k6
      · rw [am_I_ne1 (by omega), e _ _ (by decide)]; exact k7 k hk
      · rw [am_I_ne2 (by omega), e _ _ (by decide)]; exact k8
      · rw [am_I_ne1 (by omega), e _ _ (by decide)]; exact k9 k hk
      · rw [am_I_same, uZ_eq]
    · rw [t228, am_br_ge (by omega) (by omega) (by omega) (by omega), if_pos g, am_ob_p (kk_187 S1), am_i2l z1 z2, am_lt, am_tr_1]
    · obtain ⟨k1, k2, k3, k4, k5, k6, k7, k8, k9, k10⟩ := HM1.2.2.2.2.2.2.1
      refine ⟨fun k hk => ?_, ?_, ?_, ?_, fun k hk => ?_, ?_, fun k hk => ?_, ?_, fun k hk => ?_, ?_⟩
      · rw [e _ _ (by decide)]; exact k1 k hk
      · rw [e _ _ (by decide)]; exact k2
      · rw [e _ _ (by decide)]; exact k3
      · rw [e _ _ (by decide)]; exact k4
      · rw [e _ _ (by decide)]; exact k5 k hk
      · rw [e _ _ (by decide)]; exact k6
      · rw [e _ _ (by decide)]; exact k7 k hk
      · rw [e _ _ (by decide)]; exact k8
      · rw [e _ _ (by decide)]; exact k9 k hk
      · rw [am_L_same, uZ_eq]
    · obtain ⟨b1, b2, b3, b4, b5, b6⟩ := B.2.2.2.2.2.2
      refine ⟨fun k => by rw [e _ _ (by decide)]; exact b1 k, by rw [e _ _ (by decide)]; exact b2, by rw [e _ _ (by decide)]; exact b3, fun r hr => ?_, by rw [e _ _ (by decide)]; exact b5, by rw [uZ_eq]; omega⟩
      rw [e _ _ (by decide)] at hr
      rw [e _ _ (by decide), e _ _ (by decide), e _ _ (by decide)]
      exact b4 r hr
  · refine Call_no 5 (v := .int (am_i 0)) (iv _) hq S HC HM B h0 ?_ (fun M1 S1 HM1 => ?_)
    · rw [t31, am_br_ge (by omega) (by omega) (by omega) (by omega), if_neg g, am_ob_p (kk_2 S), show (am_i 5) = am_i ((5 : Nat) : Int) from rfl, c_refuse S HC.2.2.2.2.2.2.1 (n := 5) (by decide), am_bI_p, am_tr_0]
    · have k9 := HM1.2.2.2.2.2.2.1.2.2.2.2.2.2.2.2.1 5 (by decide)
      rw [t228, am_br_ge (by omega) (by omega) (by omega) (by omega), if_neg g]
      simp (disch := omega) only [am_ob_p (kk_187 S1), rr_187_9 S1, am_ix_p (kk_189 S1), am_iw_p (kk_189 S1), am_gr_p, am_i_ix, Int.toNat_zero, Int.toNat_one, Int.toNat_natCast, Int.reduceToNat, am_lt, am_i_add, am_i_sub, am_i_mul, k9, am_tr_0]
theorem hsum_sim {X : am_X} {G : am_Gf} {s s' : am_Hs} (h1 : s.1 = s'.1) (h2 : s.2.2 = s'.2.2) : ∀ n, hsum X G s n = hsum X G s' n
  | 0 => rfl
  | n + 1 => by
    obtain ⟨g1, g2⟩ := hours_sim (X := X) (G := G) h1 h2 n
    have := (hour_sim (X := X) (G := G) g1 g2).2.2.1
    show hsum X G s n + (hour X G (hours X G s n)).2.1 3 0 = hsum X G s' n + (hour X G (hours X G s' n)).2.1 3 0
    rw [hsum_sim h1 h2 n, this]
theorem cQ_any (M : am_M) : ∃ Q : am_Qh, cQ M 63 Q := ⟨fun i p => if i = 0 then (am_I M 69 p).toInt else (am_I M 70 p).toInt, fun p _ => (am_i_of (am_I M 69 p)).symm, fun p _ => (am_i_of (am_I M 70 p)).symm⟩
theorem pH_aM {b k : Nat} (h : pH 0 b k) : aM b k ∧ 187 ≤ b := by
  unfold pH at h
  rcases h with h | h | h | h | h | h
  · exact aM_229 h.1
  · exact ⟨Or.inl (sM_230 (by omega)), by omega⟩
  · exact ⟨Or.inl (sM_230 (by omega)), by omega⟩
  · exact ⟨Or.inl (sM_230 (by omega)), by omega⟩
  · exact ⟨Or.inl (sM_257 (by omega)), by omega⟩
  · exact ⟨Or.inl (sM_187 ⟨h.1, by omega⟩), by omega⟩
theorem call_hours {L : Nat} {xs : Nat → Int32} {M : am_M} {W : am_Wo} {b : Nat} (R : Rel L xs M W b) (hb : b < 1000000000) (x : Int32) : Call L xs 28 227 [.int x] M b := by
  obtain ⟨q, hq, S, HC, HM, B, h0⟩ := R
  obtain ⟨z, rfl, z1, z2⟩ := int_of x
  have c63 : isC 63 := Or.inl rfl
  have hh := qok_h hq
  have hh' : q.2.2.1 = 4 ∨ q.2.2.1 = 38 := hh
  have B1 := B.1
  have BA := B.2.2.2.1
  have b1 := pas_01 (wA W) z 1 100
  have r2 := c_canPass S HC.2.2.2.1 BA z1 z2 (lo := 1) (hi := 100) (by decide) (by decide) (by decide) 598
  by_cases g2 : pas (wA W) z 1 100 = 1
  · obtain ⟨n, rfl, hn1, hn2, hn3, hn4⟩ := pas_ex g2 (by decide) (by decide)
    obtain ⟨M1, s1, S1, f1, HP1⟩ := c_remember S HC.2.2.2.1 HC.2.2.2.2.1 HC.2.2.2.2.2.1 596
    have HA1 : cA M1 64 (wA W) := cA_mv HC.2.2.2.1 (fun b k k1 k2 k3 => (f1 b k (by unfold pP; omega)).1)
    have HK1 : cK M1 64 (wK W) b := cK_mv HC.2.2.2.2.1 (f1 64 6 (by unfold pP; omega)).1 (fun k => (f1 68 k (by unfold pP; omega)).1)
    obtain ⟨Q, HQ⟩ := cQ_any M1
    have key : ∀ m k : Nat, k + m = n → ∀ (M2 : am_M), am_Sh L q M2 → fr (pC 63) M1 M2 → cA M2 64 (hours (wX W) (wG W) (wA W, Q, wK W) k).1 → cK M2 64 (hours (wX W) (wG W) (wA W, Q, wK W) k).2.2 (b + 5 * k) → cQ M2 63 (hours (wX W) (wG W) (wA W, Q, wK W) k).2.1 →
        ∃ M3, am_ev 28 599 25 [.ref 2, .int (am_i n), .int (am_i (hsum (wX W) (wG W) (wA W, Q, wK W) k)), .int (am_i k)] [] M2 = some (some (.int (am_i (hsum (wX W) (wG W) (wA W, Q, wK W) n))), M3) ∧ am_Sh L q M3 ∧ fr (pC 63) M1 M3 ∧ cA M3 64 (hours (wX W) (wG W) (wA W, Q, wK W) n).1 ∧ cK M3 64 (hours (wX W) (wG W) (wA W, Q, wK W) n).2.2 (b + 5 * n) := by
      intro m
      induction m with
      | zero =>
        intro k hk M2 S2 f2 HA2 HK2 HQ2
        have : k = n := by omega
        subst this
        refine ⟨M2, ?_, S2, f2, HA2, HK2⟩
        rw [t28_25, am_br_ge (by omega) (by omega) (by omega) (by omega), if_pos (by omega)]
      | succ m ih =>
        intro k hk M2 S2 f2 HA2 HK2 HQ2
        have hbd := (hours_bd (G := wG W) (s := (wA W, Q, wK W)) B1 BA k (by dsimp only; omega)).1
        have e1 : ∀ b k, q.2.2.1 ≤ b → b < q.2.2.1 + 25 → am_I M2 b k = am_I M b k := fun b k k1 k2 => by rw [(f2 b k (by unfold pC; omega)).1, (f1 b k (by unfold pP; omega)).1]
        obtain ⟨M3, r3, S3, f3, Hs3⟩ := c_passHour (s := hours (wX W) (wG W) (wA W, Q, wK W) k) (h := q.2.2.1) S2 c63 hh (rr_63_0 S2) (cH_mv HC.1 B1 (fun b k k1 k2 => e1 b k k1 (by omega))) (cG_mv HC.2.2.1 e1) HA2 HK2 HQ2 (by omega) B1 B.2.2.1 hbd 593
        obtain ⟨M4, r4, hR⟩ := ih (k + 1) (by omega) M3 S3 (fr_tr f2 f3) Hs3.1 Hs3.2.1 Hs3.2.2.1
        refine ⟨M4, ?_, hR⟩
        rw [t28_25, am_br_ge (by omega) (by omega) (by omega) (by omega), if_neg (by omega), am_ob_p (kk_2 S2), rr_2_3 S2, am_gr_p, am_ob_p (kk_63 S2), r3, am_bI_p, am_i_add, am_i_add]
        exact r4
    obtain ⟨M2, s2, S2, f2, HA2, HK2⟩ := key n 0 (by omega) M1 S1 (fr_rfl _ _) HA1 HK1 HQ
    obtain ⟨ev1, ev2⟩ := hours_sim (X := wX W) (G := wG W) (s := (wA W, Q, wK W)) (s' := (wA W, qz, wK W)) rfl rfl n
    have ev3 := hsum_sim (X := wX W) (G := wG W) (s := (wA W, Q, wK W)) (s' := (wA W, qz, wK W)) rfl rfl n
    rw [ev1] at HA2
    rw [ev2] at HK2
    rw [ev3] at s2
    have f12 : fr (fun b k => aC q b k ∧ b < 187) M M2 := fr_tr (fr_mono f1 (fun b k h => pP_s hq h)) (fr_mono f2 (fun b k h => by unfold pC at h; exact aC_63 h.1 (by omega)))
    have HM2 := mWo_mv HM B1 (fr_mono f12 (fun b k h => sM_lt h.2))
    obtain ⟨M3, s3, S3, f3, HP3⟩ := m_keeps S2 HM2.2.2.2.1 HM2.2.2.2.2.1 HM2.2.2.2.2.2.1 598
    have e3 : ∀ b k, ¬ pQ b k → am_I M3 b k = am_I M2 b k := fun b k h => (f3 b k h).1
    obtain ⟨M4, s4, S4, f4, Hs4⟩ := m_hoursGo (K := wK W) (th := 0) S3 (mH_mv HM2.1 B1 (fun b k k1 k2 k3 => e3 b k (by unfold pQ; omega))) (mG_mv HM2.2.2.1 (fun b k k1 k2 k3 k4 => e3 b k (by unfold pQ; omega))) (mA_mv HM2.2.2.2.1 (fun k hk => e3 229 k (by unfold pQ; omega))) (fun _ => mK_mv HM2.2.2.2.2.1 (fun k hk => e3 229 k (by unfold pQ; omega))) (by rw [e3 187 60 (by unfold pQ; omega)]; exact HM2.2.2.2.2.2.2.2.2) (by decide) B1 B.2.2.1 BA hn1 hn2 591
    have hbd := (hours_bd (G := wG W) (s := (wA W, qz, wK W)) B1 BA n (by dsimp only; omega)).1
    refine Call_act (v := .int (am_i (hsum (wX W) (wG W) (wA W, qz, wK W) n))) (A := (hours (wX W) (wG W) (wA W, qz, wK W) n).1) (K := (hours (wX W) (wG W) (wA W, qz, wK W) n).2.2) (P := actP (wA W) (wK W) (wP W)) (Z := wZ W) (iv _) hq HC HM B h0 (M1 := M2) (M2 := M4) ?_ f12 HA2 (cK_le HK2 (by omega)) ?_ ?_ hq rfl ?_ (fr_tr (fr_mono f3 (fun b k h => pQ_s h)) (fr_mono f4 (fun b k h => pH_aM h))) Hs4.1 (Hs4.2.1 rfl) ?_ ?_ Hs4.2.2.2 hbd (hours_kB (s := (wA W, qz, wK W)) B1 BA B.2.2.2.2.1 n (by dsimp only; omega)) (actP_B B) B.2.2.2.2.2.2 S4
    · rw [t28, am_ob_p (kk_2 S), r2, am_bI_p, am_br_ne (by omega) (by omega) (by omega) (by omega), if_p1 g2, am_ob_p (kk_2 S), s1, am_bV_p]
      exact s2
    · exact cWp_le (cWp_mv HP1 (fun b k h => (f2 b k (by unfold pC; omega)).1)) (by omega)
    · exact cWz_mv2 HC.2.2.2.2.2.2.1 (fun b k h => by rw [(f2 b k (by unfold zC at h; unfold pC; omega)).1]; exact (f1 b k (by unfold zC at h; unfold pP; omega)).1)
    · rw [t227, am_ob_p (kk_187 S2), m_isAhead S2 HM2.2.2.2.1 BA z1 z2 (lo := 1) (hi := 100) (by decide) (by decide) (by decide), am_bI_p, am_br_ne (by omega) (by omega) (by omega) (by omega), if_p1 g2, am_ob_p (kk_187 S2), s3, am_bV_p, am_ob_p (kk_187 S3), s4, am_bI_p]
    · exact mWp_mv HP3 (fun b k h => (f4 b k (by unfold pH; omega)).1)
    · exact mWz_mv2 HM2.2.2.2.2.2.2.1 (fun b k h => by
        have h3 := f3 b k (by unfold zM at h; unfold pQ; omega)
        have h4 := f4 b k (by unfold zM at h; unfold pH; omega)
        exact ⟨h4.1.trans h3.1, h4.2.trans h3.2⟩)
  · have g2' := pas_0 g2
    refine Call_no 3 (v := .int (am_i (-1))) (iv _) hq S HC HM B h0 ?_ (fun M1 S1 HM1 => ?_)
    · rw [t28, am_ob_p (kk_2 S), r2, am_bI_p, am_br_ne (by omega) (by omega) (by omega) (by omega), if_p0 g2', am_ob_p (kk_2 S), show (am_i 3) = am_i ((3 : Nat) : Int) from rfl, c_refuse S HC.2.2.2.2.2.2.1 (n := 3) (by decide), am_bI_p]
    · rw [t227, am_ob_p (kk_187 S1), m_isAhead S1 HM1.2.2.2.1 BA z1 z2 (lo := 1) (hi := 100) (by decide) (by decide) (by decide), am_bI_p, am_br_ne (by omega) (by omega) (by omega) (by omega), if_p0 g2', am_ob_p (kk_187 S1), show (am_i 3) = am_i ((3 : Nat) : Int) from rfl, m_refuses S1 HM1.2.2.2.2.2.2.1 (n := 3) (by decide), am_bI_p]
