/-! chance, the call. -/
theorem cWz_seed {M M' : am_M} {Z : Nat → Nat → Int} {d : Int} (H : cWz M Z) (e' : ∀ b k, zC b k → ¬ (b = 2 ∧ k = 15) → am_I M' b k = am_I M b k) (hd : am_I M' 2 15 = am_i d) : cWz M' (uZ Z 8 0 d) := by
  obtain ⟨k1, k2, k3, k4, k5, k6, k7, k8, k9, k10⟩ := H
  have e : ∀ a b, a ≠ 8 → uZ Z 8 0 d a b = Z a b := fun a b h => uZ_ne (fun g => h g.1)
  refine ⟨fun k hk => ?_, ?_, ?_, ?_, fun k hk => ?_, ?_, fun k hk => ?_, ?_, fun k hk => ?_, ?_⟩
  · rw [e' _ _ (by unfold zC; omega) (by omega), e _ _ (by decide)]; exact k1 k hk
  · rw [e' _ _ (by unfold zC; omega) (by omega), e _ _ (by decide)]; exact k2
  · rw [e' _ _ (by unfold zC; omega) (by omega), e _ _ (by decide)]; exact k3
  · rw [e' _ _ (by unfold zC; omega) (by omega), e _ _ (by decide)]; exact k4
  · rw [e' _ _ (by unfold zC; omega) (by omega), e _ _ (by decide)]; exact k5 k hk
  · rw [e' _ _ (by unfold zC; omega) (by omega), e _ _ (by decide)]; exact k6
  · rw [e' _ _ (by unfold zC; omega) (by omega), e _ _ (by decide)]; exact k7 k hk
  · rw [e' _ _ (by unfold zC; omega) (by omega), e _ _ (by decide)]; exact k8
  · rw [e' _ _ (by unfold zC; omega) (by omega), e _ _ (by decide)]; exact k9 k hk
  · rw [hd, uZ_eq]
theorem mWz_seed {M M' : am_M} {Z : Nat → Nat → Int} {d : Int} (H : mWz M Z) (e' : ∀ b k, zM b k → ¬ (b = 187 ∧ k = 70) → am_I M' b k = am_I M b k) (hd : am_L M' 187 70 = am_l d) : mWz M' (uZ Z 8 0 d) := by
  obtain ⟨k1, k2, k3, k4, k5, k6, k7, k8, k9, k10⟩ := H
  have e : ∀ a b, a ≠ 8 → uZ Z 8 0 d a b = Z a b := fun a b h => uZ_ne (fun g => h g.1)
  refine ⟨fun k hk => ?_, ?_, ?_, ?_, fun k hk => ?_, ?_, fun k hk => ?_, ?_, fun k hk => ?_, ?_⟩
  · rw [e' _ _ (by unfold zM; omega) (by omega), e _ _ (by decide)]; exact k1 k hk
  · rw [e' _ _ (by unfold zM; omega) (by omega), e _ _ (by decide)]; exact k2
  · rw [e' _ _ (by unfold zM; omega) (by omega), e _ _ (by decide)]; exact k3
  · rw [e' _ _ (by unfold zM; omega) (by omega), e _ _ (by decide)]; exact k4
  · rw [e' _ _ (by unfold zM; omega) (by omega), e _ _ (by decide)]; exact k5 k hk
  · rw [e' _ _ (by unfold zM; omega) (by omega), e _ _ (by decide)]; exact k6
  · rw [e' _ _ (by unfold zM; omega) (by omega), e _ _ (by decide)]; exact k7 k hk
  · rw [e' _ _ (by unfold zM; omega) (by omega), e _ _ (by decide)]; exact k8
  · rw [e' _ _ (by unfold zM; omega) (by omega), e _ _ (by decide)]; exact k9 k hk
  · rw [hd, uZ_eq]
theorem zB_seed {X : am_X} {Z : Nat → Nat → Int} (B : zB X Z) {d : Int} (h0 : 0 ≤ d) (h1 : d ≤ 2147483647) : zB X (uZ Z 8 0 d) := by
  obtain ⟨b1, b2, b3, b4, b5, b6⟩ := B
  have e : ∀ a b, a ≠ 8 → uZ Z 8 0 d a b = Z a b := fun a b h => uZ_ne (fun g => h g.1)
  refine ⟨fun k => by rw [e _ _ (by decide)]; exact b1 k, by rw [e _ _ (by decide)]; exact b2, by rw [e _ _ (by decide)]; exact b3, fun r hr => ?_, by rw [e _ _ (by decide)]; exact b5, by rw [uZ_eq]; omega⟩
  rw [e _ _ (by decide)] at hr
  rw [e _ _ (by decide), e _ _ (by decide), e _ _ (by decide)]
  exact b4 r hr
def pX (b k : Nat) : Prop := pC 63 b k ∨ (b = 2 ∧ k = 15)
def pY (b k : Nat) : Prop := pH 0 b k ∨ (b = 187 ∧ k = 70)
theorem call_chance {L : Nat} {xs : Nat → Int32} {M : am_M} {W : am_Wo} {b : Nat} (R : Rel L xs M W b) (hb : b < 1000000000) (x : Int32) : Call L xs 29 231 [.int x] M b := by
  obtain ⟨q, hq, S, HC, HM, B, h0⟩ := R
  obtain ⟨z, rfl, z1, z2⟩ := int_of x
  have c63 : isC 63 := Or.inl rfl
  have hh := qok_h hq
  have hh' : q.2.2.1 = 4 ∨ q.2.2.1 = 38 := hh
  have B1 := B.1
  have BA := B.2.2.2.1
  have BK := B.2.2.2.2.1
  have BZ := B.2.2.2.2.2.2
  have bz8 := BZ.2.2.2.2.2
  have b1 := pas_01 (wA W) z 1 100
  have r2 := c_canPass S HC.2.2.2.1 BA z1 z2 (lo := 1) (hi := 100) (by decide) (by decide) (by decide) 598
  by_cases g2 : pas (wA W) z 1 100 = 1
  · obtain ⟨n, rfl, hn1, hn2, hn3, hn4⟩ := pas_ex g2 (by decide) (by decide)
    obtain ⟨t, ht⟩ : ∃ t : am_Ts, t = (wA W, wK W, wZ W 8 0) := ⟨_, rfl⟩
    have t1 : t.1 = wA W := by rw [ht]
    have t2 : t.2.1 = wK W := by rw [ht]
    have t3 : t.2.2 = wZ W 8 0 := by rw [ht]
    have bd := chS_bd (G := wG W) B1 (t := t) (by rw [t1]; exact BA) (by rw [t2]; exact BK) (by rw [t3]; exact bz8.1) (by rw [t3]; exact bz8.2)
    rw [t1] at bd
    obtain ⟨M1, s1, S1, f1, HP1⟩ := c_remember S HC.2.2.2.1 HC.2.2.2.2.1 HC.2.2.2.2.2.1 596
    have HA1 : cA M1 64 t.1 := by rw [t1]; exact cA_mv HC.2.2.2.1 (fun b k k1 k2 k3 => (f1 b k (by unfold pP; omega)).1)
    have HK1 : cK M1 64 t.2.1 b := by rw [t2]; exact cK_mv HC.2.2.2.2.1 (f1 64 6 (by unfold pP; omega)).1 (fun k => (f1 68 k (by unfold pP; omega)).1)
    have hd1 : am_I M1 2 15 = am_i t.2.2 := by rw [t3, (f1 2 15 (by unfold pP; omega)).1]; exact HC.2.2.2.2.2.2.1.2.2.2.2.2.2.2.2.2
    have key : ∀ m k : Nat, k + m = n → ∀ (M2 : am_M), am_Sh L q M2 → fr pX M1 M2 → cA M2 64 (chS (wX W) (wG W) t k).1 → cK M2 64 (chS (wX W) (wG W) t k).2.1 (b + 6 * k) → am_I M2 2 15 = am_i (chS (wX W) (wG W) t k).2.2 →
        ∃ M3, am_ev 29 599 25 [.ref 2, .int (am_i n), .int (am_i (chN (wX W) (wG W) t k)), .int (am_i k)] [] M2 = some (some (.int (am_i (chN (wX W) (wG W) t n))), M3) ∧ am_Sh L q M3 ∧ fr pX M1 M3 ∧ cA M3 64 (chS (wX W) (wG W) t n).1 ∧ cK M3 64 (chS (wX W) (wG W) t n).2.1 (b + 6 * n) ∧ am_I M3 2 15 = am_i (chS (wX W) (wG W) t n).2.2 := by
      intro m
      induction m with
      | zero =>
        intro k hk M2 S2 f2 HA2 HK2 hd2
        have : k = n := by omega
        subst this
        refine ⟨M2, ?_, S2, f2, HA2, HK2, hd2⟩
        rw [t29_25, am_br_ge (by omega) (by omega) (by omega) (by omega), if_pos (by omega)]
      | succ m ih =>
        intro k hk M2 S2 f2 HA2 HK2 hd2
        obtain ⟨g1, g2, g3, g4⟩ := bd k (by omega)
        obtain ⟨k1, k2, k3, k4, k5⟩ := strg_bd (G := wG W) B1 g1 g2
        have bN := chN_bd (wX W) (wG W) t k
        have e1 : ∀ b k, q.2.2.1 ≤ b → b < q.2.2.1 + 25 → am_I M2 b k = am_I M b k := fun b k k1 k2 => by rw [(f2 b k (by unfold pX pC; omega)).1, (f1 b k (by unfold pP; omega)).1]
        obtain ⟨M3, r3, S3, f3, HA3, HK3, hd3⟩ := c_stranger S2 hh (t := chS (wX W) (wG W) t k) (cH_mv HC.1 B1 (fun b k k1 k2 => e1 b k k1 (by omega))) (cG_mv HC.2.2.1 e1) HA2 HK2 (by omega) B1 B.2.2.1 g1 g3.1 g3.2 hd2
        have e3 : ∀ b k, q.2.2.1 ≤ b → b < q.2.2.1 + 25 → am_I M3 b k = am_I M b k := fun b k k1 k2 => by rw [(f3 b k (by unfold pU pS; omega)).1]; exact e1 b k k1 k2
        obtain ⟨Q, HQ⟩ := cQ_any M3
        obtain ⟨M4, r4, S4, f4, Hs4⟩ := c_passHour (s := ((strg (wX W) (wG W) (chS (wX W) (wG W) t k)).1.1, Q, (strg (wX W) (wG W) (chS (wX W) (wG W) t k)).1.2.1)) (h := q.2.2.1) S3 c63 hh (rr_63_0 S3) (cH_mv HC.1 B1 (fun b k k1 k2 => e3 b k k1 (by omega))) (cG_mv HC.2.2.1 e3) HA3 HK3 HQ (by omega) B1 B.2.2.1 k1 593
        have hs := hour_sim (X := wX W) (G := wG W) (s := ((strg (wX W) (wG W) (chS (wX W) (wG W) t k)).1.1, Q, (strg (wX W) (wG W) (chS (wX W) (wG W) t k)).1.2.1)) (s' := ((strg (wX W) (wG W) (chS (wX W) (wG W) t k)).1.1, qz, (strg (wX W) (wG W) (chS (wX W) (wG W) t k)).1.2.1)) rfl rfl
        have HA4 := Hs4.1
        have HK4 := Hs4.2.1
        rw [hs.1] at HA4
        rw [hs.2.1] at HK4
        have eN : chN (wX W) (wG W) t (k + 1) = chN (wX W) (wG W) t k + (strg (wX W) (wG W) (chS (wX W) (wG W) t k)).2 := rfl
        obtain ⟨M5, r5, hR⟩ := ih (k + 1) (by omega) M4 S4 (fr_tr f2 (fr_tr (fr_mono f3 (fun b k h => by unfold pU pS at h; unfold pX pC; omega)) (fr_mono f4 (fun b k h => Or.inl h)))) HA4 (cK_le HK4 (by omega)) (by rw [(f4 2 15 (by unfold pC; omega)).1]; exact hd3)
        refine ⟨M5, ?_, hR⟩
        rw [eN] at r5
        rw [t29_25, am_br_ge (by omega) (by omega) (by omega) (by omega), if_neg (by omega), am_ob_p (kk_2 S2), r3, am_bI_p, am_br_eq (by omega) (by omega) (by omega) (by omega)]
        rcases k5 with j | j
        · rw [if_p0 j, am_ob_p (kk_2 S3), rr_2_3 S3, am_gr_p, am_ob_p (kk_63 S3), r4, am_bI_p, am_i_add]
          rw [j, Int.add_zero] at r5
          exact r5
        · rw [if_p1 j, am_ob_p (kk_2 S3), rr_2_3 S3, am_gr_p, am_ob_p (kk_63 S3), r4, am_bI_p, am_i_add, am_i_add]
          rw [j] at r5
          exact r5
    obtain ⟨M2, s2, S2, f2, HA2, HK2, hd2⟩ := key n 0 (by omega) M1 S1 (fr_rfl _ _) HA1 HK1 hd1
    have f12 : fr (fun b k => aC q b k ∧ b < 187) M M2 := fr_tr (fr_mono f1 (fun b k h => pP_s hq h)) (fr_mono f2 (fun b k h => h.elim (fun h => by unfold pC at h; exact aC_63 h.1 (by omega)) (fun h => ⟨Or.inr (Or.inl (Or.inr (Or.inr (Or.inr (Or.inr (Or.inl ⟨h.1, by omega⟩)))))), by omega⟩)))
    have HM2 := mWo_mv HM B1 (M' := M2) (fr_mono f12 (fun b k h => sM_lt h.2))
    obtain ⟨M3, s3, S3, f3, HP3⟩ := m_keeps S2 HM2.2.2.2.1 HM2.2.2.2.2.1 HM2.2.2.2.2.2.1 598
    have e3 : ∀ b k, ¬ pQ b k → am_I M3 b k = am_I M2 b k := fun b k h => (f3 b k h).1
    have HX3 : mH M3 (wX W) := mH_mv HM2.1 B1 (fun b k k1 k2 k3 => e3 b k (by unfold pQ; omega))
    have HG3 : mG M3 (wG W) := mG_mv HM2.2.2.1 (fun b k k1 k2 k3 k4 => e3 b k (by unfold pQ; omega))
    have HA3 : mA M3 t.1 := by rw [t1]; exact mA_mv HM2.2.2.2.1 (fun k hk => e3 229 k (by unfold pQ; omega))
    have HK3 : mK M3 t.2.1 := by rw [t2]; exact mK_mv HM2.2.2.2.2.1 (fun k hk => e3 229 k (by unfold pQ; omega))
    have h60 : am_I M3 187 60 = am_i 0 := by rw [e3 187 60 (by unfold pQ; omega)]; exact HM2.2.2.2.2.2.2.2.2
    have hd3 : am_L M3 187 70 = am_l t.2.2 := by rw [t3, (f3 187 70 (by unfold pQ; omega)).2]; exact HM2.2.2.2.2.2.2.1.2.2.2.2.2.2.2.2.2
    have mkey : ∀ m k : Nat, k + m = n → ∀ (M4 : am_M), am_Sh L q M4 → fr pY M3 M4 → mA M4 (chS (wX W) (wG W) t k).1 → mK M4 (chS (wX W) (wG W) t k).2.1 → am_L M4 187 70 = am_l (chS (wX W) (wG W) t k).2.2 → am_I M4 187 60 = am_i 0 →
        ∃ M5, am_ev 231 599 25 [.ref 187, .int (am_i n), .int (am_i (chN (wX W) (wG W) t k)), .int (am_i k)] [] M4 = some (some (.int (am_i (chN (wX W) (wG W) t n))), M5) ∧ am_Sh L q M5 ∧ fr pY M3 M5 ∧ mA M5 (chS (wX W) (wG W) t n).1 ∧ mK M5 (chS (wX W) (wG W) t n).2.1 ∧ am_L M5 187 70 = am_l (chS (wX W) (wG W) t n).2.2 ∧ am_I M5 187 60 = am_i 0 := by
      intro m
      induction m with
      | zero =>
        intro k hk M4 S4 f4 HA4 HK4 hd4 h604
        have : k = n := by omega
        subst this
        refine ⟨M4, ?_, S4, f4, HA4, HK4, hd4, h604⟩
        rw [t231_25, am_br_ge (by omega) (by omega) (by omega) (by omega), if_pos (by omega)]
      | succ m ih =>
        intro k hk M4 S4 f4 HA4 HK4 hd4 h604
        obtain ⟨g1, g2, g3, g4⟩ := bd k (by omega)
        obtain ⟨k1, k2, k3, k4, k5⟩ := strg_bd (G := wG W) B1 g1 g2
        have bN := chN_bd (wX W) (wG W) t k
        have e4 : ∀ b k, ¬ pY b k → am_I M4 b k = am_I M3 b k := fun b k h => (f4 b k h).1
        have HX4 : mH M4 (wX W) := mH_mv HX3 B1 (fun b k k1 k2 k3 => e4 b k (by unfold pY pH; omega))
        have HG4 : mG M4 (wG W) := mG_mv HG3 (fun b k k1 k2 k3 k4 => e4 b k (by unfold pY pH; omega))
        obtain ⟨M5, r5, S5, f5, HA5, HK5, hd5, h605⟩ := m_stranger S4 (t := chS (wX W) (wG W) t k) HX4 HG4 HA4 HK4 h604 B1 B.2.2.1 g1 g3.1 g3.2 hd4
        have f5' : fr pY M4 M5 := fr_mono f5 (fun b k h => by unfold pV pN pK at h; unfold pY pH; omega)
        have e5 : ∀ b k, ¬ pY b k → am_I M5 b k = am_I M4 b k := fun b k h => (f5' b k h).1
        obtain ⟨Q, HQ⟩ := mQ_any M5
        obtain ⟨M6, r6, S6, f6, Hs6⟩ := m_hourGoes (s := ((strg (wX W) (wG W) (chS (wX W) (wG W) t k)).1.1, Q, (strg (wX W) (wG W) (chS (wX W) (wG W) t k)).1.2.1)) (th := 0) S5 (mH_mv HX4 B1 (fun b k k1 k2 k3 => e5 b k (by unfold pY pH; omega))) (mG_mv HG4 (fun b k k1 k2 k3 k4 => e5 b k (by unfold pY pH; omega))) HA5 (fun _ => HK5) HQ h605 (by decide) B1 B.2.2.1 k1 592
        have hs := hour_sim (X := wX W) (G := wG W) (s := ((strg (wX W) (wG W) (chS (wX W) (wG W) t k)).1.1, Q, (strg (wX W) (wG W) (chS (wX W) (wG W) t k)).1.2.1)) (s' := ((strg (wX W) (wG W) (chS (wX W) (wG W) t k)).1.1, qz, (strg (wX W) (wG W) (chS (wX W) (wG W) t k)).1.2.1)) rfl rfl
        have HA6 := Hs6.1
        have HK6 := Hs6.2.1 rfl
        rw [hs.1] at HA6
        rw [hs.2.1] at HK6
        have eN : chN (wX W) (wG W) t (k + 1) = chN (wX W) (wG W) t k + (strg (wX W) (wG W) (chS (wX W) (wG W) t k)).2 := rfl
        obtain ⟨M7, r7, hR⟩ := ih (k + 1) (by omega) M6 S6 (fr_tr f4 (fr_tr f5' (fr_mono f6 (fun b k h => Or.inl h)))) HA6 HK6 (by rw [(f6 187 70 (by unfold pH; omega)).2]; exact hd5) Hs6.2.2.2
        refine ⟨M7, ?_, hR⟩
        rw [eN] at r7
        rw [t231_25, am_br_ge (by omega) (by omega) (by omega) (by omega), if_neg (by omega), am_ob_p (kk_187 S4), r5, am_bI_p, am_br_eq (by omega) (by omega) (by omega) (by omega)]
        rcases k5 with j | j
        · rw [if_p0 j, am_ob_p (kk_187 S5), r6, am_bI_p, am_i_add]
          rw [j, Int.add_zero] at r7
          exact r7
        · rw [if_p1 j, am_ob_p (kk_187 S5), r6, am_bI_p, am_i_add, am_i_add]
          rw [j] at r7
          exact r7
    obtain ⟨M4, s4, S4, f4, HA4, HK4, hd4, h604⟩ := mkey n 0 (by omega) M3 S3 (fr_rfl _ _) HA3 HK3 hd3 h60
    obtain ⟨bn1, bn2, bn3, bn4⟩ := bd n (by omega)
    refine Call_act (v := .int (am_i (chN (wX W) (wG W) t n))) (A := (chS (wX W) (wG W) t n).1) (K := (chS (wX W) (wG W) t n).2.1) (P := actP (wA W) (wK W) (wP W)) (Z := uZ (wZ W) 8 0 (chS (wX W) (wG W) t n).2.2) (iv _) hq HC HM B h0 (M1 := M2) (M2 := M4) ?_ f12 HA2 (cK_le HK2 (by omega)) ?_ ?_ hq rfl ?_ ?_ HA4 HK4 ?_ ?_ h604 bn1 bn2 (actP_B B) (zB_seed BZ bn3.1 bn3.2) S4
    · rw [t29, am_ob_p (kk_2 S), r2, am_bI_p, am_br_ne (by omega) (by omega) (by omega) (by omega), if_p1 g2, am_ob_p (kk_2 S), s1, am_bV_p]
      exact s2
    · exact cWp_le (cWp_mv HP1 (fun b k h => (f2 b k (by unfold pX pC; omega)).1)) (by omega)
    · exact cWz_seed HC.2.2.2.2.2.2.1 (fun b k h h2 => by rw [(f2 b k (by unfold zC at h; unfold pX pC; omega)).1]; exact (f1 b k (by unfold zC at h; unfold pP; omega)).1) hd2
    · rw [t231, am_ob_p (kk_187 S2), m_isAhead S2 HM2.2.2.2.1 BA z1 z2 (lo := 1) (hi := 100) (by decide) (by decide) (by decide), am_bI_p, am_br_ne (by omega) (by omega) (by omega) (by omega), if_p1 g2, am_ob_p (kk_187 S2), s3, am_bV_p]
      exact s4
    · exact fr_tr (fr_mono f3 (fun b k h => pQ_s h)) (fr_mono f4 (fun b k h => h.elim (fun h => pH_aM h) (fun h => ⟨Or.inr (Or.inl (Or.inr (Or.inr (Or.inr (Or.inr ⟨h.1, by omega⟩))))), by omega⟩)))
    · exact mWp_mv HP3 (fun b k h => (f4 b k (by unfold pY pH; omega)).1)
    · exact mWz_seed HM2.2.2.2.2.2.2.1 (fun b k h h2 => by
        rw [(f4 b k (by unfold zM at h; unfold pY pH; omega)).1]
        exact (f3 b k (by unfold zM at h; unfold pQ; omega)).1) hd4
  · have g2' := pas_0 g2
    refine Call_no 3 (v := .int (am_i (-1))) (iv _) hq S HC HM B h0 ?_ (fun M1 S1 HM1 => ?_)
    · rw [t29, am_ob_p (kk_2 S), r2, am_bI_p, am_br_ne (by omega) (by omega) (by omega) (by omega), if_p0 g2', am_ob_p (kk_2 S), show (am_i 3) = am_i ((3 : Nat) : Int) from rfl, c_refuse S HC.2.2.2.2.2.2.1 (n := 3) (by decide), am_bI_p]
    · rw [t231, am_ob_p (kk_187 S1), m_isAhead S1 HM1.2.2.2.1 BA z1 z2 (lo := 1) (hi := 100) (by decide) (by decide) (by decide), am_bI_p, am_br_ne (by omega) (by omega) (by omega) (by omega), if_p0 g2', am_ob_p (kk_187 S1), show (am_i 3) = am_i ((3 : Nat) : Int) from rfl, m_refuses S1 HM1.2.2.2.2.2.2.1 (n := 3) (by decide), am_bI_p]
