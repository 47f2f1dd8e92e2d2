/-! show, undo. -/
theorem pW_s {q : am_Pq} {b k : Nat} (h : pW 63 b k) : aC q b k ∧ b < 187 := by
  unfold pW pS at h
  exact aC_63 (by omega) (by omega)
theorem pN_aM {b k : Nat} (h : pN b k) : aM b k ∧ 187 ≤ b := by
  unfold pN at h
  exact pH_aM (by unfold pH; omega)
theorem m_refuse2s {L : Nat} {q : am_Pq} {M : am_M} (S : am_Sh L q M) {Z : Nat → Nat → Int} (H : mWz M Z) (v1 v2 : Value) : am_ev 225 599 34 [.ref 187, v1, v2] [] M = some (some (.long (am_l (-1000000000000000))), am_sI M 189 2 (am_i (Z 7 2 + 1))) := by
  have k9 := H.2.2.2.2.2.2.2.2.1 2 (by decide)
  rw [t225_34]
  simp (disch := omega) only [am_ob_p (kk_187 S), rr_187_9 S, am_ix_p (kk_189 S), am_iw_p (kk_189 S), am_gr_p, am_i_ix, Int.toNat_zero, Int.toNat_one, Int.toNat_natCast, Int.reduceToNat, am_lt, am_i_add, am_i_sub, am_i_mul, k9]
theorem call_show {L : Nat} {xs : Nat → Int32} {M : am_M} {W : am_Wo} {b : Nat} (R : Rel L xs M W b) (hb : b < 1000000000) (x y : Int32) : Call L xs 27 225 [.int x, .int y] M b := by
  obtain ⟨q, hq, S, HC, HM, B, h0⟩ := R
  obtain ⟨z, rfl, z1, z2⟩ := int_of x
  obtain ⟨w, rfl, w1, w2⟩ := int_of y
  have c63 : isC 63 := Or.inl rfl
  have hh := qok_h hq
  have hh' : q.2.2.1 = 4 ∨ q.2.2.1 = 38 := hh
  have B1 := B.1
  have BA := B.2.2.2.1
  have hP5 := hB_P B1
  have hF8 := hB_F B1
  have b0 := is1_01 (wX W) 2 z
  have b1 := is1_01 (wX W) 1 w
  have r1 := c_isP S hh HC.1 B1 z1 z2 598
  have r3 := c_isF S hh HC.1 B1 w1 w2 598
  have er := c_refuse S HC.2.2.2.2.2.2.1 (n := 2) (by decide) 598
  by_cases g : is1 (wX W) 2 z = 1
  · by_cases g2 : is1 (wX W) 1 w = 1
    · obtain ⟨p, rfl, hp⟩ := is1_ex g
      obtain ⟨f, rfl, hf⟩ := is1_ex g2
      have hpP : p < nP (wX W) := by omega
      have hfF : f < nF (wX W) := by omega
      have hp5 : p < 5 := by omega
      have hq6 := prof_lt (wA W) hp5
      have hqP := prof_le (X := wX W) (A := wA W) hpP
      have bs1 := aB_se BA hq6 (show f < 8 by omega)
      have bs2 := hB_pt B1 hfF
      have bs3 := bs1.2 hfF
      have rh := c_hasPart S c63 hh (rr_63_0 S) HC.1 HC.2.2.2.1 B1 BA hpP hfF 597
      by_cases g3 : wA W 3 (prof (wA W) p) f < wX W 2 f 0
      · rw [if_pos g3] at rh
        obtain ⟨M1, s1, S1, f1, HP1⟩ := c_remember S HC.2.2.2.1 HC.2.2.2.2.1 HC.2.2.2.2.2.1 596
        have HA1 : cA M1 64 (wA W) := cA_mv HC.2.2.2.1 (fun b k k1 k2 k3 => (f1 b k (by unfold pP; omega)).1)
        have HK1 : cK M1 64 (wK W) b := cK_mv HC.2.2.2.2.1 (f1 64 6 (by unfold pP; omega)).1 (fun k => (f1 68 k (by unfold pP; omega)).1)
        have e1 : ∀ b k, q.2.2.1 ≤ b → b < q.2.2.1 + 25 → am_I M1 b k = am_I M b k := fun b k k1 k2 => (f1 b k (by unfold pP; omega)).1
        obtain ⟨M2, s2, S2, f2, HA2, HK2, -⟩ := c_watch S1 c63 hh (rr_63_0 S1) (cH_mv HC.1 B1 (fun b k k1 k2 => e1 b k k1 (by omega))) (cG_mv HC.2.2.1 e1) HA1 HK1 (by omega) B1 B.2.2.1 BA hpP hfF g3 594
        have f12 : fr (fun b k => aC q b k ∧ b < 187) M M2 := fr_tr (fr_mono f1 (fun b k h => pP_s hq h)) (fr_mono f2 (fun b k h => pW_s h))
        have HM2 := mWo_mv HM B1 (fr_mono f12 (fun b k h => sM_lt h.2))
        obtain ⟨M3, s3, S3, f3, HP3⟩ := m_keeps S2 HM2.2.2.2.1 HM2.2.2.2.2.1 HM2.2.2.2.2.2.1 598
        have e3 : ∀ b k, ¬ pQ b k → am_I M3 b k = am_I M2 b k := fun b k h => (f3 b k h).1
        have HX3 : mH M3 (wX W) := mH_mv HM2.1 B1 (fun b k k1 k2 k3 => e3 b k (by unfold pQ; omega))
        have HA3 : mA M3 (wA W) := mA_mv HM2.2.2.2.1 (fun k hk => e3 229 k (by unfold pQ; omega))
        have h60 : am_I M3 187 60 = am_i 0 := by rw [e3 187 60 (by unfold pQ; omega)]; exact HM2.2.2.2.2.2.2.2.2
        obtain ⟨M4, s4, S4, f4, HA4⟩ := m_partSeen S3 HX3 (mG_mv HM2.2.2.1 (fun b k k1 k2 k3 k4 => e3 b k (by unfold pQ; omega))) HA3 B1 B.2.2.1 BA hqP hfF g3 594
        have BA4 := aB_see (G := wG W) B1 BA hqP hfF g3
        obtain ⟨M5, s5, S5, f5, HA5⟩ := m_hasSeen S4 HA4 BA4 hp5 598
        have ew : uA (see (wX W) (wG W) (wA W) (prof (wA W) p) f) 4 p 0 (if see (wX W) (wG W) (wA W) (prof (wA W) p) f 4 p 0 + 1 < 9999 then see (wX W) (wG W) (wA W) (prof (wA W) p) f 4 p 0 + 1 else 9999) = watch (wX W) (wG W) (wA W) p f := by
          unfold watch
          rw [see_ne _ _ _ _ _ (by omega) (by omega)]
        rw [ew] at HA5
        have et : watch (wX W) (wG W) (wA W) p f 0 0 0 = wA W 0 0 0 := watch_ne _ _ _ _ _ (by omega) (by omega) (by omega)
        have ep : watch (wX W) (wG W) (wA W) p f 1 0 0 = wA W 1 0 0 := watch_ne _ _ _ _ _ (by omega) (by omega) (by omega)
        have er2 : rowc (watch (wX W) (wG W) (wA W) p f) p f = rowc (wA W) p f := by unfold rowc; rw [et]
        have e5 : ∀ b k, ¬ pN b k → am_I M5 b k = am_I M3 b k := fun b k h => by rw [(f5 b k (by unfold pN at h; omega)).1, (f4 b k h).1]
        have HK5 : mK M5 (wK W) := mK_mv HM2.2.2.2.2.1 (fun k hk => by rw [e5 229 k (by unfold pN; omega)]; exact e3 229 k (by unfold pQ; omega))
        obtain ⟨M6, s6, S6, f6, HK6⟩ := m_isKept S5 HA5 (by rw [et]; exact (aB_t BA).1) HK5 (by rw [e5 187 60 (by unfold pN; omega)]; exact h60) (p := p) (f := f) (by omega) (by omega) 598
        rw [er2] at HK6
        have HA6 : mA M6 (watch (wX W) (wG W) (wA W) p f) := mA_mv HA5 (fun k hk => (f6 229 k (by unfold pK; omega)).1)
        have e6 : ∀ b k, ¬ pN b k → b ≠ 229 → am_I M6 b k = am_I M3 b k := fun b k h h2 => by rw [(f6 b k (by unfold pK; omega)).1]; exact e5 b k h
        have r7 := m_pleasedBy S6 (mH_mv HX3 B1 (fun b k k1 k2 k3 => e6 b k (by unfold pN; omega) (by omega))) HA6 B1 hpP hfF 596
        have bz := plz_bd (A := wA W) B1 hpP hfF
        have ez : plz (wX W) (watch (wX W) (wG W) (wA W) p f) p f = plz (wX W) (wA W) p f := by unfold plz; rw [prs_congr ep]
        rw [ez] at r7
        have f36 : fr (fun b k => aM b k ∧ 187 ≤ b) M3 M6 := fr_tr (fr_tr (fr_mono f4 (fun b k h => pN_aM h)) (fr_mono f5 (fun b k h => aM_229 h.1))) (fr_mono f6 (fun b k h => aM_229 h.1))
        have f36L : ∀ b k, ¬ pN b k → b ≠ 229 → am_I M6 b k = am_I M3 b k ∧ am_L M6 b k = am_L M3 b k := fun b k h h2 => ⟨e6 b k h h2, by rw [(f6 b k (by unfold pK; omega)).2, (f5 b k (by omega)).2, (f4 b k h).2]⟩
        refine Call_act (v := .long (am_l (plz (wX W) (wA W) p f))) (A := watch (wX W) (wG W) (wA W) p f) (K := kpush (wK W) (rowc (wA W) p f)) (P := actP (wA W) (wK W) (wP W)) (Z := wZ W) (lv _) hq HC HM B h0 (M1 := M2) (M2 := M6) ?_ f12 HA2 (cK_le HK2 (by omega)) ?_ ?_ hq rfl ?_ (fr_tr (fr_mono f3 (fun b k h => pQ_s h)) f36) HA6 HK6 ?_ ?_ ?_ (aB_watch (G := wG W) B1 BA hpP hfF g3) (kpush_B B.2.2.2.2.1 (rowc_B BA (by omega) (by omega))) (actP_B B) B.2.2.2.2.2.2 S6
        · rw [t27, am_ob_p (kk_2 S), r1, am_bI_p, am_br_eq (by omega) (by omega) (by omega) (by omega), if_p1 g, am_ob_p (kk_2 S), r3, am_bI_p, am_br_eq (by omega) (by omega) (by omega) (by omega), if_p1 g2, am_ob_p (kk_2 S), rr_2_3 S, am_gr_p, am_ob_p (kk_63 S), rh, am_bI_p, am_br_ne (by omega) (by omega) (by omega) (by omega), if_neg (by decide), am_ob_p (kk_2 S), s1, am_bV_p, am_ob_p (kk_2 S1), rr_2_3 S1, am_gr_p, am_ob_p (kk_63 S1), s2, am_bI_p, am_i2l (by omega) (by omega)]
        · exact cWp_le (cWp_mv HP1 (fun b k h => (f2 b k (by unfold pW pS; omega)).1)) (by omega)
        · exact cWz_mv2 HC.2.2.2.2.2.2.1 (fun b k h => by rw [(f2 b k (by unfold zC at h; unfold pW pS; omega)).1]; exact (f1 b k (by unfold zC at h; unfold pP; omega)).1)
        · rw [t225, am_ob_p (kk_187 S2), m_isPerson S2 HM2.1 B1 z1 z2, am_bI_p, am_br_eq (by omega) (by omega) (by omega) (by omega), if_p1 g, am_ob_p (kk_187 S2), m_isFilm S2 HM2.1 B1 w1 w2, am_bI_p, am_br_eq (by omega) (by omega) (by omega) (by omega), if_p1 g2, am_ob_p (kk_187 S2), m_profileOf S2 HM2.2.2.2.1 hp5, am_bI_p, am_ob_p (kk_187 S2), m_seenBy S2 HM2.2.2.2.1 hq6 (show f < 8 by omega), am_bI_p, am_ob_p (kk_187 S2), m_partsOf S2 HM2.1 B1 hfF, am_bI_p, am_br_ne (by omega) (by omega) (by omega) (by omega), if_neg (by omega), am_ob_p (kk_187 S2), s3, am_bV_p, am_ob_p (kk_187 S3), m_profileOf S3 HA3 hp5, am_bI_p, am_ob_p (kk_187 S3), s4, am_bV_p, am_ob_p (kk_187 S4), s5, am_bV_p, am_ob_p (kk_187 S5), s6, am_bV_p, am_ob_p (kk_187 S6), r7, am_bI_p, am_i2l (by omega) (by omega)]
        · exact mWp_mv HP3 (fun b k h => e6 b k (by unfold pN; omega) (by omega))
        · exact mWz_mv2 HM2.2.2.2.2.2.2.1 (fun b k h => by
            have h3 := f3 b k (by unfold zM at h; unfold pQ; omega)
            have h4 := f36L b k (by unfold zM at h; unfold pN; omega) (by unfold zM at h; omega)
            exact ⟨h4.1.trans h3.1, h4.2.trans h3.2⟩)
        · rw [e6 187 60 (by unfold pN; omega) (by omega)]; exact h60
      · rw [if_neg g3] at rh
        refine Call_no 2 (v := .long (am_l (-1000000000000000))) (lv _) hq S HC HM B h0 ?_ (fun M1 S1 HM1 => ?_)
        · rw [t27, am_ob_p (kk_2 S), r1, am_bI_p, am_br_eq (by omega) (by omega) (by omega) (by omega), if_p1 g, am_ob_p (kk_2 S), r3, am_bI_p, am_br_eq (by omega) (by omega) (by omega) (by omega), if_p1 g2, am_ob_p (kk_2 S), rr_2_3 S, am_gr_p, am_ob_p (kk_63 S), rh, am_bI_p, am_br_ne (by omega) (by omega) (by omega) (by omega), if_pos rfl, am_ob_p (kk_2 S), show (am_i 2) = am_i ((2 : Nat) : Int) from rfl, er, am_bI_p]
        · rw [t225, am_ob_p (kk_187 S1), m_isPerson S1 HM1.1 B1 z1 z2, am_bI_p, am_br_eq (by omega) (by omega) (by omega) (by omega), if_p1 g, am_ob_p (kk_187 S1), m_isFilm S1 HM1.1 B1 w1 w2, am_bI_p, am_br_eq (by omega) (by omega) (by omega) (by omega), if_p1 g2, am_ob_p (kk_187 S1), m_profileOf S1 HM1.2.2.2.1 hp5, am_bI_p, am_ob_p (kk_187 S1), m_seenBy S1 HM1.2.2.2.1 hq6 (show f < 8 by omega), am_bI_p, am_ob_p (kk_187 S1), m_partsOf S1 HM1.1 B1 hfF, am_bI_p, am_br_ne (by omega) (by omega) (by omega) (by omega), if_pos (by omega)]
          exact m_refuse2s S1 HM1.2.2.2.2.2.2.1 _ _
    · have g2' := is1_0 g2
      refine Call_no 2 (v := .long (am_l (-1000000000000000))) (lv _) hq S HC HM B h0 ?_ (fun M1 S1 HM1 => ?_)
      · rw [t27, am_ob_p (kk_2 S), r1, am_bI_p, am_br_eq (by omega) (by omega) (by omega) (by omega), if_p1 g, am_ob_p (kk_2 S), r3, am_bI_p, am_br_eq (by omega) (by omega) (by omega) (by omega), if_p0 g2', am_ob_p (kk_2 S), show (am_i 2) = am_i ((2 : Nat) : Int) from rfl, er, am_bI_p]
      · rw [t225, am_ob_p (kk_187 S1), m_isPerson S1 HM1.1 B1 z1 z2, am_bI_p, am_br_eq (by omega) (by omega) (by omega) (by omega), if_p1 g, am_ob_p (kk_187 S1), m_isFilm S1 HM1.1 B1 w1 w2, am_bI_p, am_br_eq (by omega) (by omega) (by omega) (by omega), if_p0 g2']
        exact m_refuse2s S1 HM1.2.2.2.2.2.2.1 _ _
  · have g' := is1_0 g
    refine Call_no 2 (v := .long (am_l (-1000000000000000))) (lv _) hq S HC HM B h0 ?_ (fun M1 S1 HM1 => ?_)
    · rw [t27, am_ob_p (kk_2 S), r1, am_bI_p, am_br_eq (by omega) (by omega) (by omega) (by omega), if_p0 g', am_ob_p (kk_2 S), show (am_i 2) = am_i ((2 : Nat) : Int) from rfl, er, am_bI_p]
    · rw [t225, am_ob_p (kk_187 S1), m_isPerson S1 HM1.1 B1 z1 z2, am_bI_p, am_br_eq (by omega) (by omega) (by omega) (by omega), if_p0 g']
      exact m_refuse2s S1 HM1.2.2.2.2.2.2.1 _ _
theorem call_undo {L : Nat} {xs : Nat → Int32} {M : am_M} {W : am_Wo} {b : Nat} (R : Rel L xs M W b) : Call L xs 30 223 [] M b := by
  obtain ⟨q, hq, S, HC, HM, B, h0⟩ := R
  have B1 := B.1
  obtain ⟨o, k1, k2, k3, k4, k5⟩ := HC.2.2.2.2.2.1
  cases hP : wP W with
  | nil =>
    rw [hP] at k3
    refine Call_no 4 (v := .int (am_i 0)) (iv _) hq S HC HM B h0 ?_ (fun M1 S1 HM1 => ?_)
    · rw [t30, am_ob_p (kk_2 S), k3, show (([] : List (am_A × List Int)).length : Int) = 0 from rfl, am_br_ne (by omega) (by omega) (by omega) (by omega), if_pos rfl, am_ob_p (kk_2 S), show (am_i 4) = am_i ((4 : Nat) : Int) from rfl, c_refuse S HC.2.2.2.2.2.2.1 (n := 4) (by decide), am_bI_p, am_tr_0]
    · obtain ⟨w, j1, j2, j3, j4, j5⟩ := HM1.2.2.2.2.2.1
      rw [hP] at j3
      have k9 := HM1.2.2.2.2.2.2.1.2.2.2.2.2.2.2.2.1 4 (by decide)
      rw [t223, am_ob_p (kk_187 S1), j3, show (([] : List (am_A × List Int)).length : Int) = 0 from rfl, am_br_ne (by omega) (by omega) (by omega) (by omega), if_pos rfl]
      simp (disch := omega) only [am_ob_p (kk_187 S1), rr_187_9 S1, am_ix_p (kk_189 S1), am_iw_p (kk_189 S1), am_gr_p, am_i_ix, Int.toNat_zero, Int.toNat_one, Int.toNat_natCast, Int.reduceToNat, am_lt, am_i_add, am_i_sub, am_i_mul, k9, am_tr_0]
  | cons a P =>
    obtain ⟨A, K⟩ := a
    have hBP := B.2.2.2.2.2.1
    rw [hP] at k3 k4 k5 hBP
    rw [List.length_cons] at k3 k4 k5
    obtain ⟨s, hs, hs2⟩ : ∃ s : Nat, s = (o + P.length) % 20 ∧ s < 20 := ⟨_, rfl, by omega⟩
    have h5 := k5 0 (A, K) rfl
    rw [show (o + (P.length + 1 - 1 - 0)) % 20 = s by omega] at h5
    have u : ((o : Int) + (P.length : Int)) % 20 = s := by omega
    have S1 := S.sI 2 7 (am_i (P.length : Int))
    obtain ⟨M2, s2, S2, f2, HA2, HK2⟩ := c_copyFrom S1 isA_64 (isA_past hs2) (by omega) (A := A) (K := K) (bk := b) (cA_mv h5.1 (fun b k m1 m2 m3 => am_I_ne1 (by omega))) (cK_mv h5.2 (am_I_ne1 (by omega)) (fun k => am_I_ne1 (by omega))) 597
    have f12 : fr (fun b k => aC q b k ∧ b < 187) M M2 := fr_tr (fr_sI (pP_s hq (Or.inl ⟨rfl, Or.inr rfl⟩))) (fr_mono f2 (fun b k h => by unfold pA at h; exact aC_63 (by omega) (by omega)))
    have HM2 := mWo_mv HM B1 (fr_mono f12 (fun b k h => sM_lt h.2))
    obtain ⟨w, j1, j2, j3, j4, j5⟩ := HM2.2.2.2.2.2.1
    rw [hP] at j3 j4 j5
    rw [List.length_cons] at j3 j4
    have h6 := j5 0 (A, K) rfl
    rw [show (w + 20 - 0) % 20 = w by omega] at h6
    have key : ∀ m n : Nat, n + m = 257 → ∀ (M3 : am_M), am_Sh L q M3 → fr (fun b _ => b = 229) M2 M3 → (∀ k, k < n → am_I M3 229 k = am_I M2 236 (257 * w + k)) →
        ∃ M4, am_ev 223 599 21 [.ref 187, .int (am_i n)] [] M3 = some (some (.int (am_i 1)), am_sI (am_sI M4 187 69 (am_i (((w : Int) + 20 - 1) % 20))) 187 68 (am_i (P.length : Int))) ∧ am_Sh L q M4 ∧ fr (fun b _ => b = 229) M2 M4 ∧ (∀ k, k < 257 → am_I M4 229 k = am_I M2 236 (257 * w + k)) := by
      intro m
      induction m with
      | zero =>
        intro n hn M3 S3 f3 hI
        have e69 : am_I M3 187 69 = am_i w := by rw [(f3 187 69 (show ¬ (187 : Nat) = 229 by decide)).1]; exact j2
        have e68 : am_I M3 187 68 = am_i ((P.length + 1 : Nat) : Int) := by rw [(f3 187 68 (show ¬ (187 : Nat) = 229 by decide)).1]; exact j3
        refine ⟨M3, ?_, S3, f3, fun k hk => hI k (by omega)⟩
        rw [t223_21, am_br_ge (by omega) (by omega) (by omega) (by omega), if_pos (by omega), am_ob_p (kk_187 S3), am_if_f (by decide), e69, am_i_add, am_i_sub]
        simp only [am_lt]
        rw [am_ob_p (kk_187 S3), am_i_rem (by omega) (by omega) (by omega) (by omega), am_ob_p (kk_187 (S3.sI 187 69 _)), am_ob_p (kk_187 (S3.sI 187 69 _)), am_I_ne2 (by omega), e68, am_i_sub, show ((P.length + 1 : Nat) : Int) - 1 = P.length by omega, am_tr_1]
      | succ m ih =>
        intro n hn M3 S3 f3 hI
        have e69 : am_I M3 187 69 = am_i w := by rw [(f3 187 69 (show ¬ (187 : Nat) = 229 by decide)).1]; exact j2
        have ux : (257 * (w : Int) + (n : Int)).toNat = 257 * w + n := by omega
        have e : am_I M3 236 (257 * w + n) = am_I M2 236 (257 * w + n) := (f3 236 _ (show ¬ (236 : Nat) = 229 by decide)).1
        obtain ⟨M4, r4, hR⟩ := ih (n + 1) (by omega) _ (S3.sI 229 n (am_I M2 236 (257 * w + n))) (fr_tr f3 (fr_sI rfl)) (fun k hk => by
          by_cases g : k = n
          · subst g; rw [am_I_same]
          · rw [am_I_ne2 g]; exact hI k (by omega))
        refine ⟨M4, ?_, hR⟩
        rw [t223_21, am_br_ge (by omega) (by omega) (by omega) (by omega), if_neg (by omega)]
        simp (disch := omega) only [am_ob_p (kk_187 S3), rr_187_54 S3, rr_187_67 S3, am_ix_p (kk_236 S3), am_iw_p (kk_229 S3), e69, am_gr_p, am_i_ix, Int.toNat_zero, Int.toNat_one, Int.toNat_natCast, Int.reduceToNat, am_lt, am_i_add, am_i_sub, am_i_mul, ux, e]
        exact r4
    obtain ⟨M4, s4, S4, f4, hI4⟩ := key 257 0 (by omega) M2 S2 (fr_rfl _ _) (fun k hk => absurd hk (by omega))
    have S6 := (S4.sI 187 69 (am_i (((w : Int) + 20 - 1) % 20))).sI 187 68 (am_i (P.length : Int))
    have e4 : ∀ b k, ¬ (b = 187 ∧ (k = 68 ∨ k = 69)) → am_I (am_sI (am_sI M4 187 69 (am_i (((w : Int) + 20 - 1) % 20))) 187 68 (am_i (P.length : Int))) b k = am_I M4 b k := fun b k h => by
      rw [am_I_sI, if_neg (by omega), am_I_sI, if_neg (by omega)]
    refine Call_act (v := .int (am_i 1)) (A := A) (K := K) (P := P) (Z := wZ W) (iv _) hq HC HM B h0 (M1 := M2) (M2 := am_sI (am_sI M4 187 69 (am_i (((w : Int) + 20 - 1) % 20))) 187 68 (am_i (P.length : Int))) ?_ f12 HA2 (cK_le HK2 (by omega)) ?_ ?_ hq rfl ?_ ?_ ?_ ?_ ?_ ?_ ?_ (hBP _ (List.mem_cons_self)).1 (hBP _ (List.mem_cons_self)).2 (fun a ha => hBP a (List.mem_cons_of_mem _ ha)) B.2.2.2.2.2.2 S6
    · rw [t30, am_ob_p (kk_2 S), k3, am_br_ne (by omega) (by omega) (by omega) (by omega), if_neg (by omega), am_ob_p (kk_2 S), am_ob_p (kk_2 S), am_i_sub, show ((P.length + 1 : Nat) : Int) - 1 = P.length by omega]
      simp only [am_lt]
      rw [am_ob_p (kk_2 S1), rr_2_3 S1, am_gr_p, am_ob_p (kk_63 S1), rr_63_1 S1, am_gr_p, am_ob_p (kk_2 S1), rr_2_5 S1, am_gr_p, am_ob_p (kk_2 S1), am_ob_p (kk_2 S1), am_if_f (by decide), am_I_same, am_I_ne2 (by omega), k2, am_i_add, am_i_rem (by omega) (by omega) (by omega) (by omega), u, am_iq_p (kk_32 S1) (Or.inl rfl) (by omega) (by omega) (by omega), am_i_ix (by omega) (by omega), Int.toNat_natCast, rr_32_s S1 hs2, am_gr_p, am_ob_p (kk_64 S1), s2, am_bV_p, am_tr_1]
    · refine ⟨o, k1, ?_, ?_, by omega, fun j a hj => ?_⟩
      · rw [(f2 2 6 (by unfold pA; omega)).1, am_I_ne2 (by omega)]; exact k2
      · rw [(f2 2 7 (by unfold pA; omega)).1, am_I_same]
      · have hjl := getE_lt hj
        obtain ⟨m1, m2⟩ := k5 (j + 1) a (by rw [List.getElem?_cons_succ]; exact hj)
        rw [show o + (P.length + 1 - 1 - (j + 1)) = o + (P.length - 1 - j) by omega] at m1 m2
        refine ⟨cA_mv m1 (fun b k n1 n2 n3 => ?_), cK_le (cK_mv m2 ?_ (fun k => ?_)) (by omega)⟩
        · rw [(f2 b k (by unfold pA; omega)).1, am_I_ne1 (by omega)]
        · rw [(f2 _ _ (by unfold pA; omega)).1, am_I_ne1 (by omega)]
        · rw [(f2 _ _ (by unfold pA; omega)).1, am_I_ne1 (by omega)]
    · exact cWz_mv2 HC.2.2.2.2.2.2.1 (fun b k h => by rw [(f2 b k (by unfold zC at h; unfold pA; omega)).1, am_I_sI, if_neg (by unfold zC at h; omega)])
    · rw [t223, am_ob_p (kk_187 S2), j3, am_br_ne (by omega) (by omega) (by omega) (by omega), if_neg (by omega)]
      exact s4
    · exact fr_tr (fr_mono f4 (fun b k h => aM_229 h)) (fr_tr (fr_sI (pQ_s (Or.inr ⟨rfl, Or.inr rfl⟩))) (fr_sI (pQ_s (Or.inr ⟨rfl, Or.inl rfl⟩))))
    · exact mA_at (mAo_cp h6.1 (fun k hk => by rw [Nat.zero_add, e4 229 k (by omega)]; exact hI4 k hk))
    · exact mK_at (mKo_cp h6.2 (fun k hk => by rw [Nat.zero_add, e4 229 k (by omega)]; exact hI4 k hk))
    · refine ⟨(w + 19) % 20, by omega, ?_, ?_, by omega, fun j a hj => ?_⟩
      · rw [am_I_ne2 (by omega), am_I_same, show (((w : Int) + 20 - 1) % 20) = (((w + 19) % 20 : Nat) : Int) by omega]
      · rw [am_I_same]
      · have hjl := getE_lt hj
        obtain ⟨m1, m2⟩ := j5 (j + 1) a (by rw [List.getElem?_cons_succ]; exact hj)
        rw [show ((w + 19) % 20 + 20 - j) % 20 = (w + 20 - (j + 1)) % 20 by omega]
        have e : ∀ k, am_I (am_sI (am_sI M4 187 69 (am_i (((w : Int) + 20 - 1) % 20))) 187 68 (am_i (P.length : Int))) 236 k = am_I M2 236 k := fun k => by
          rw [e4 236 k (by omega)]
          exact (f4 236 k (show ¬ (236 : Nat) = 229 by decide)).1
        exact ⟨mAo_mv m1 e, mKo_mv m2 e⟩
    · exact mWz_mv2 HM2.2.2.2.2.2.2.1 (fun b k h => by
        have h4 := f4 b k (show ¬ b = 229 by unfold zM at h; omega)
        exact ⟨by rw [e4 b k (by unfold zM at h; omega)]; exact h4.1, h4.2⟩)
    · rw [e4 187 60 (by omega), (f4 187 60 (show ¬ (187 : Nat) = 229 by decide)).1]
      exact HM2.2.2.2.2.2.2.2.2
