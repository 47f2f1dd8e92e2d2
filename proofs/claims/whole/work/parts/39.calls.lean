/-! Calls that look ahead: who is pleased, refused; pressing. -/
theorem pH_s {b k : Nat} (h : pH 1 b k) : (sM b k ∨ (b = 229 ∧ k < 96) ∨ (b = 187 ∧ k = 60)) ∧ 187 ≤ b := by
  rcases h with ⟨h, h2⟩ | h | h | h | h | ⟨h, h2⟩
  · exact ⟨Or.inr (Or.inl ⟨h, by omega⟩), by omega⟩
  · exact ⟨Or.inl (sM_230 (by omega)), by omega⟩
  · exact ⟨Or.inl (sM_230 (by omega)), by omega⟩
  · exact ⟨Or.inl (sM_230 (by omega)), by omega⟩
  · exact ⟨Or.inl (sM_257 (by omega)), by omega⟩
  · exact ⟨Or.inl (sM_187 ⟨h, by omega⟩), by omega⟩
/-- what a look ahead may write in the reference -/
def pR (b k : Nat) : Prop := (sM b k ∨ (b = 229 ∧ k < 96) ∨ (b = 187 ∧ k = 60)) ∧ 187 ≤ b
theorem pR_aside {b k : Nat} (h : b = 230 ∨ (b = 187 ∧ k = 60)) : pR b k := by
  rcases h with h | h
  · exact ⟨Or.inl (sM_230 (by omega)), by omega⟩
  · exact ⟨Or.inr (Or.inr h), by omega⟩
theorem pR_229 {b k : Nat} (h : b = 229 ∧ k < 96) : pR b k := ⟨Or.inr (Or.inl h), by omega⟩
theorem pR_back {b k : Nat} (h : (b = 229 ∧ k < 96) ∨ (b = 187 ∧ k = 60)) : pR b k := ⟨Or.inr h, by omega⟩
theorem pB_s {q : am_Pq} {b k : Nat} (h : pB b k) : sC q b k ∧ b < 187 := by
  unfold pB at h
  exact ⟨sC_m (by omega), by omega⟩
theorem qok_a {q : am_Pq} (h : qok q) : qok (q.1, q.2.1, q.2.2.1, q.2.2.1) := ⟨h.1, by have := h.1; show q.2.2.1 = 4 ∨ q.2.2.1 = 38; omega, h.2.2⟩
/-- the reference, between what is put aside and taken back -/
def mTh (L : Nat) (q : am_Pq) (M : am_M) (W : am_Wo) (A : am_A) : Prop := am_Sh L q M ∧ mH M (wX W) ∧ mG M (wG W) ∧ mA M A ∧ mAs M (wA W) ∧ am_I M 187 60 = am_i 1
theorem mTh_aside {L : Nat} {q : am_Pq} {M : am_M} {W : am_Wo} (S : am_Sh L q M) (HM : mWo M W) (B : wB W) (d : Nat) : ∃ M', am_cl 188 d [.ref 187] M = some (none, M') ∧ fr pR M M' ∧ mTh L q M' W (wA W) := by
  obtain ⟨M1, r1, S1, f1, HA1, h1⟩ := m_putsAside S HM.2.2.2.1 d
  exact ⟨M1, r1, fr_mono f1 (fun b k h => pR_aside h), S1, mH_mv HM.1 B.1 (fun b k k1 k2 k3 => (f1 b k (by omega)).1), mG_mv HM.2.2.1 (fun b k k1 k2 k3 k4 => (f1 b k (by omega)).1), mA_mv HM.2.2.2.1 (fun k hk => (f1 229 k (by omega)).1), HA1, h1⟩
theorem mTh_hours {L : Nat} {q : am_Pq} {M : am_M} {W : am_Wo} {A : am_A} (T : mTh L q M W A) (B : wB W) (BA : aB (wX W) A) (K : List Int) {n : Nat} (hn : n ≤ 100) (hn2 : A 0 0 0 + n ≤ 23999) (d : Nat) : ∃ M', am_cl 187 (d + 7) [.ref 187, .int (am_i n)] M = some (some (.int (am_i (hsum (wX W) (wG W) (A, qz, K) n))), M') ∧ fr pR M M' ∧ mTh L q M' W (hours (wX W) (wG W) (A, qz, K) n).1 ∧ mQ M' 0 (hours (wX W) (wG W) (A, qz, K) n).2.1 := by
  obtain ⟨S, HX, HG, HA, HS, h60⟩ := T
  obtain ⟨M1, r1, S1, f1, Hs⟩ := m_hoursGo (K := K) (th := 1) S HX HG HA (fun h => absurd h (by decide)) h60 (by decide) B.1 B.2.2.1 BA hn hn2 d
  exact ⟨M1, r1, fr_mono f1 (fun b k h => pH_s h), ⟨S1, mH_mv HX B.1 (fun b k k1 k2 k3 => (f1 b k (by unfold pH; omega)).1), mG_mv HG (fun b k k1 k2 k3 k4 => (f1 b k (by unfold pH; omega)).1), Hs.1, mAs_mv HS (fun k => (f1 230 k (by unfold pH; omega)).1), Hs.2.2.2⟩, Hs.2.2.1⟩
theorem mTh_press {L : Nat} {q : am_Pq} {M : am_M} {W : am_Wo} {A : am_A} (T : mTh L q M W A) (B : wB W) (BA : aB (wX W) A) {P : Int} (h0 : 0 ≤ P) (h1 : P < ((2 ^ nP (wX W) : Nat) : Int)) (d : Nat) : ∃ M', am_cl 168 (d + 1) [.ref 187, .int (am_i P)] M = some (none, M') ∧ fr pR M M' ∧ mTh L q M' W (aP A P) := by
  obtain ⟨S, HX, HG, HA, HS, h60⟩ := T
  obtain ⟨M1, r1, S1, f1, HA1⟩ := m_pressAll S HX HA B.1 BA h0 h1 d
  exact ⟨M1, r1, fr_mono f1 (fun b k h => pR_229 h), S1, mH_mv HX B.1 (fun b k k1 k2 k3 => (f1 b k (by omega)).1), mG_mv HG (fun b k k1 k2 k3 k4 => (f1 b k (by omega)).1), HA1, mAs_mv HS (fun k => (f1 230 k (by omega)).1), by rw [(f1 187 60 (by omega)).1]; exact h60⟩
theorem mTh_anew {L : Nat} {q : am_Pq} {M : am_M} {W : am_Wo} {A : am_A} (T : mTh L q M W A) (B : wB W) (d : Nat) : ∃ M', am_cl 189 d [.ref 187] M = some (none, M') ∧ fr (fun b k => b = 229 ∧ k < 96) M M' ∧ mTh L q M' W (wA W) := by
  obtain ⟨S, HX, HG, HA, HS, h60⟩ := T
  obtain ⟨M1, r1, S1, f1, HA1⟩ := m_triesAnew S HS d
  exact ⟨M1, r1, f1, S1, mH_mv HX B.1 (fun b k k1 k2 k3 => (f1 b k (by omega)).1), mG_mv HG (fun b k k1 k2 k3 k4 => (f1 b k (by omega)).1), HA1, mAs_mv HS (fun k => (f1 230 k (by omega)).1), by rw [(f1 187 60 (by omega)).1]; exact h60⟩
theorem mTh_back {L : Nat} {q : am_Pq} {M : am_M} {W : am_Wo} {A : am_A} (T : mTh L q M W A) (d : Nat) : ∃ M', am_cl 190 (d + 1) [.ref 187] M = some (none, M') ∧ fr (fun b k => (b = 229 ∧ k < 96) ∨ (b = 187 ∧ k = 60)) M M' ∧ am_Sh L q M' ∧ mA M' (wA W) ∧ am_I M' 187 60 = am_i 0 := by
  obtain ⟨S, HX, HG, HA, HS, h60⟩ := T
  obtain ⟨M1, r1, S1, f1, HA1, h1⟩ := m_takesBack S HS d
  exact ⟨M1, r1, f1, S1, HA1, h1⟩
theorem aP_t (A : am_A) (P : Int) : aP A P 0 0 0 = A 0 0 0 := uA_ne (by omega)
theorem aP_self (A : am_A) : aP A (A 1 0 0) = A := uA_self A 1 0 0
theorem pas_ex {A : am_A} {z lo hi : Int} (h : pas A z lo hi = 1) (h0 : 0 ≤ lo) (h1 : hi ≤ 100) : ∃ n : Nat, z = n ∧ n ≤ 100 ∧ A 0 0 0 + n ≤ 23999 ∧ lo ≤ n ∧ (n : Int) ≤ hi := by
  unfold pas at h
  split at h
  · exact ⟨z.toNat, by omega, by omega, by omega, by omega, by omega⟩
  · omega
theorem pas_01 (A : am_A) (z lo hi : Int) : pas A z lo hi = 0 ∨ pas A z lo hi = 1 := by unfold pas; split <;> simp
theorem pas_0 {A : am_A} {z lo hi : Int} (h : ¬ pas A z lo hi = 1) : pas A z lo hi = 0 := (pas_01 A z lo hi).resolve_right h
theorem call_pleased {L : Nat} {xs : Nat → Int32} {M : am_M} {W : am_Wo} {b : Nat} (R : Rel L xs M W b) (hb : b < 1000000000) (x y : Int32) : Call L xs 15 204 [.int x, .int y] M b := by
  obtain ⟨q, hq, S, HC, HM, B, h0⟩ := R
  obtain ⟨z, rfl, z1, z2⟩ := int_of x
  obtain ⟨w, rfl, w1, w2⟩ := int_of y
  have hh := qok_h hq
  have B1 := B.1
  have BA := B.2.2.2.1
  have hP5 := hB_P B1
  have bp := aB_p BA
  have b0 := is1_01 (wX W) 2 z
  have b1 := pas_01 (wA W) w 0 72
  have r1 := c_isP S hh HC.1 B1 z1 z2 598
  have r2 := c_canPass S HC.2.2.2.1 BA w1 w2 (lo := 0) (hi := 72) (by decide) (by decide) (by decide) 598
  by_cases g : is1 (wX W) 2 z = 1
  · by_cases g2 : pas (wA W) w 0 72 = 1
    · obtain ⟨p, rfl, hp⟩ := is1_ex g
      obtain ⟨n, rfl, hn1, hn2, hn3, hn4⟩ := pas_ex g2 (by decide) (by decide)
      obtain ⟨M1, s1, S1, f1, HA1, HK1, HQ1⟩ := c_lookAhead S hh HC.1 HC.2.2.1 HC.2.2.2.1 HC.2.2.2.2.1 (by omega) B1 B.2.2.1 BA bp.1 bp.2 hn1 hn2 592
      rw [aP_self] at HA1 HK1 HQ1
      have hqb := hours_q (G := wG W) B1 (s := (wA W, qz, wK W)) BA p n hn2
      have hq0 : (wA W, qz, wK W).2.1 0 p = 0 := rfl
      rw [hq0] at hqb
      have HM1 := mWo_mv HM B1 (M' := M1) (fr_mono f1 (fun b k h => sM_lt (by unfold pB at h; omega)))
      obtain ⟨M2, s2, f2, T2⟩ := mTh_aside S1 HM1 B 598
      obtain ⟨M3, s3, f3, T3, Q3⟩ := mTh_hours T2 B BA (wK W) hn1 hn2 591
      obtain ⟨M4, s4, f4, S4, HA4, h60⟩ := mTh_back T3 597
      have e1 := HQ1.1 p (by omega)
      have e4 : am_L M4 232 p = am_l ((hours (wX W) (wG W) (wA W, qz, wK W) n).2.1 0 p) := by rw [(f4 232 p (by omega)).2]; exact Q3.1 p (by omega)
      refine Call_ahead (v := .long (am_l ((hours (wX W) (wG W) (wA W, qz, wK W) n).2.1 0 p))) (M1 := M1) (M2 := M4) (lv _) hq HC HM B h0 ?_ (fr_mono f1 (fun b k h => pB_s h)) (qok_a hq) rfl ?_ (fr_tr (fr_tr f2 f3) (fr_mono f4 (fun b k h => pR_back h))) HA4 h60 S4
      · rw [t15, am_ob_p (kk_2 S), r1, am_bI_p, am_br_eq (by omega) (by omega) (by omega) (by omega), if_p1 g, am_ob_p (kk_2 S), r2, am_bI_p, am_br_ne (by omega) (by omega) (by omega) (by omega), if_p1 g2, am_ob_p (kk_2 S), rr_2_3 S, am_gr_p, am_ob_p (kk_63 S), rr_63_1 S, am_gr_p, am_ob_p (kk_64 S), am_ob_p (kk_2 S), HC.2.2.2.1.2.1, s1, am_bV_p]
        simp (disch := omega) only [am_ob_p (kk_2 S1), rr_2_4 S1, am_gr_p, am_ob_p (kk_75 S1), rr_75_2 S1, am_ix_p (kk_81 S1), am_i_ix, Int.toNat_natCast, e1, am_i2l]
      · have r3 := m_isPerson S1 HM1.1 B1 z1 z2 597
        have r4 := m_isAhead S1 HM1.2.2.2.1 BA w1 w2 (lo := 0) (hi := 72) (by decide) (by decide) (by decide) 597
        rw [t204, am_ob_p (kk_187 S1), r3, am_bI_p, am_br_eq (by omega) (by omega) (by omega) (by omega), if_p1 g, am_ob_p (kk_187 S1), r4, am_bI_p, am_br_ne (by omega) (by omega) (by omega) (by omega), if_p1 g2, am_ob_p (kk_187 S1), s2, am_bV_p, am_ob_p (kk_187 T2.1), s3, am_bI_p, am_ob_p (kk_187 T3.1), s4, am_bV_p]
        simp (disch := omega) only [am_ob_p (kk_187 S4), rr_187_62 S4, am_gr_p, am_ix_p (kk_232 S4), am_i_ix, Int.toNat_natCast, e4]
    · have g2' := pas_0 g2
      refine Call_same (v := .long (am_l (-1000000000000000))) (lv _) hq HC HM B h0 S ?_ ?_
      · rw [t15, am_ob_p (kk_2 S), r1, am_bI_p, am_br_eq (by omega) (by omega) (by omega) (by omega), if_p1 g, am_ob_p (kk_2 S), r2, am_bI_p, am_br_ne (by omega) (by omega) (by omega) (by omega), if_p0 g2']
      · rw [t204, am_ob_p (kk_187 S), m_isPerson S HM.1 B1 z1 z2, am_bI_p, am_br_eq (by omega) (by omega) (by omega) (by omega), if_p1 g, am_ob_p (kk_187 S), m_isAhead S HM.2.2.2.1 BA w1 w2 (by decide) (by decide) (by decide), am_bI_p, am_br_ne (by omega) (by omega) (by omega) (by omega), if_p0 g2']
  · have g' := is1_0 g
    refine Call_same (v := .long (am_l (-1000000000000000))) (lv _) hq HC HM B h0 S ?_ ?_
    · rw [t15, am_ob_p (kk_2 S), r1, am_bI_p, am_br_eq (by omega) (by omega) (by omega) (by omega), if_p0 g']
    · rw [t204, am_ob_p (kk_187 S), m_isPerson S HM.1 B1 z1 z2, am_bI_p, am_br_eq (by omega) (by omega) (by omega) (by omega), if_p0 g']
theorem call_refused {L : Nat} {xs : Nat → Int32} {M : am_M} {W : am_Wo} {b : Nat} (R : Rel L xs M W b) (hb : b < 1000000000) (x y : Int32) : Call L xs 16 205 [.int x, .int y] M b := by
  obtain ⟨q, hq, S, HC, HM, B, h0⟩ := R
  obtain ⟨z, rfl, z1, z2⟩ := int_of x
  obtain ⟨w, rfl, w1, w2⟩ := int_of y
  have hh := qok_h hq
  have B1 := B.1
  have BA := B.2.2.2.1
  have hP5 := hB_P B1
  have bp := aB_p BA
  have b0 := is1_01 (wX W) 2 z
  have b1 := pas_01 (wA W) w 0 72
  have r1 := c_isP S hh HC.1 B1 z1 z2 598
  have r2 := c_canPass S HC.2.2.2.1 BA w1 w2 (lo := 0) (hi := 72) (by decide) (by decide) (by decide) 598
  by_cases g : is1 (wX W) 2 z = 1
  · by_cases g2 : pas (wA W) w 0 72 = 1
    · obtain ⟨p, rfl, hp⟩ := is1_ex g
      obtain ⟨n, rfl, hn1, hn2, hn3, hn4⟩ := pas_ex g2 (by decide) (by decide)
      obtain ⟨M1, s1, S1, f1, HA1, HK1, HQ1⟩ := c_lookAhead S hh HC.1 HC.2.2.1 HC.2.2.2.1 HC.2.2.2.2.1 (by omega) B1 B.2.2.1 BA bp.1 bp.2 hn1 hn2 592
      rw [aP_self] at HA1 HK1 HQ1
      have HM1 := mWo_mv HM B1 (M' := M1) (fr_mono f1 (fun b k h => sM_lt (by unfold pB at h; omega)))
      obtain ⟨M2, s2, f2, T2⟩ := mTh_aside S1 HM1 B 598
      obtain ⟨M3, s3, f3, T3, Q3⟩ := mTh_hours T2 B BA (wK W) hn1 hn2 591
      obtain ⟨M4, s4, f4, S4, HA4, h60⟩ := mTh_back T3 597
      have e1 := HQ1.2 p (by omega)
      have e4 : am_I M4 233 p = am_i ((hours (wX W) (wG W) (wA W, qz, wK W) n).2.1 1 p) := by rw [(f4 233 p (by omega)).1]; exact Q3.2.1 p (by omega)
      refine Call_ahead (v := .int (am_i ((hours (wX W) (wG W) (wA W, qz, wK W) n).2.1 1 p))) (M1 := M1) (M2 := M4) (iv _) hq HC HM B h0 ?_ (fr_mono f1 (fun b k h => pB_s h)) (qok_a hq) rfl ?_ (fr_tr (fr_tr f2 f3) (fr_mono f4 (fun b k h => pR_back h))) HA4 h60 S4
      · rw [t16, am_ob_p (kk_2 S), r1, am_bI_p, am_br_eq (by omega) (by omega) (by omega) (by omega), if_p1 g, am_ob_p (kk_2 S), r2, am_bI_p, am_br_ne (by omega) (by omega) (by omega) (by omega), if_p1 g2, am_ob_p (kk_2 S), rr_2_3 S, am_gr_p, am_ob_p (kk_63 S), rr_63_1 S, am_gr_p, am_ob_p (kk_64 S), am_ob_p (kk_2 S), HC.2.2.2.1.2.1, s1, am_bV_p]
        simp (disch := omega) only [am_ob_p (kk_2 S1), rr_2_4 S1, am_gr_p, am_ob_p (kk_75 S1), rr_75_3 S1, am_ix_p (kk_82 S1), am_i_ix, Int.toNat_natCast, e1]
      · have r3 := m_isPerson S1 HM1.1 B1 z1 z2 597
        have r4 := m_isAhead S1 HM1.2.2.2.1 BA w1 w2 (lo := 0) (hi := 72) (by decide) (by decide) (by decide) 597
        rw [t205, am_ob_p (kk_187 S1), r3, am_bI_p, am_br_eq (by omega) (by omega) (by omega) (by omega), if_p1 g, am_ob_p (kk_187 S1), r4, am_bI_p, am_br_ne (by omega) (by omega) (by omega) (by omega), if_p1 g2, am_ob_p (kk_187 S1), s2, am_bV_p, am_ob_p (kk_187 T2.1), s3, am_bI_p, am_ob_p (kk_187 T3.1), s4, am_bV_p]
        simp (disch := omega) only [am_ob_p (kk_187 S4), rr_187_63 S4, am_gr_p, am_ix_p (kk_233 S4), am_i_ix, Int.toNat_natCast, e4]
    · have g2' := pas_0 g2
      refine Call_same (v := .int (am_i (-1))) (iv _) hq HC HM B h0 S ?_ ?_
      · rw [t16, am_ob_p (kk_2 S), r1, am_bI_p, am_br_eq (by omega) (by omega) (by omega) (by omega), if_p1 g, am_ob_p (kk_2 S), r2, am_bI_p, am_br_ne (by omega) (by omega) (by omega) (by omega), if_p0 g2']
      · rw [t205, am_ob_p (kk_187 S), m_isPerson S HM.1 B1 z1 z2, am_bI_p, am_br_eq (by omega) (by omega) (by omega) (by omega), if_p1 g, am_ob_p (kk_187 S), m_isAhead S HM.2.2.2.1 BA w1 w2 (by decide) (by decide) (by decide), am_bI_p, am_br_ne (by omega) (by omega) (by omega) (by omega), if_p0 g2']
  · have g' := is1_0 g
    refine Call_same (v := .int (am_i (-1))) (iv _) hq HC HM B h0 S ?_ ?_
    · rw [t16, am_ob_p (kk_2 S), r1, am_bI_p, am_br_eq (by omega) (by omega) (by omega) (by omega), if_p0 g']
    · rw [t205, am_ob_p (kk_187 S), m_isPerson S HM.1 B1 z1 z2, am_bI_p, am_br_eq (by omega) (by omega) (by omega) (by omega), if_p0 g']
theorem m_pleasureBy {L : Nat} {q : am_Pq} {M : am_M} {W : am_Wo} (T : mTh L q M W (wA W)) (B : wB W) {P : Int} (h0 : 0 ≤ P) (h1 : P < ((2 ^ nP (wX W) : Nat) : Int)) {p : Nat} (hp : p < 5) {n : Nat} (hn : n ≤ 100) (hn2 : wA W 0 0 0 + n ≤ 23999) (d : Nat) :
    ∃ M', am_cl 206 (d + 8) [.ref 187, .int (am_i P), .int (am_i p), .int (am_i n)] M = some (some (.long (am_l ((hours (wX W) (wG W) (aP (wA W) P, qz, wK W) n).2.1 0 p))), M') ∧ fr pR M M' ∧ mTh L q M' W (wA W) := by
  have BA := B.2.2.2.1
  have BP := aB_aP BA h0 h1
  have eT : aP (wA W) P 0 0 0 = wA W 0 0 0 := uA_ne (by omega)
  obtain ⟨M1, s1, f1, T1⟩ := mTh_press T B BA h0 h1 (d + 6)
  obtain ⟨M2, s2, f2, T2, Q2⟩ := mTh_hours T1 B BP (wK W) hn (by omega) d
  obtain ⟨M3, s3, f3, T3⟩ := mTh_anew T2 B (d + 7)
  have e : am_L M3 232 p = am_l ((hours (wX W) (wG W) (aP (wA W) P, qz, wK W) n).2.1 0 p) := by rw [(f3 232 p (by omega)).2]; exact Q2.1 p hp
  refine ⟨M3, ?_, fr_tr (fr_tr f1 f2) (fr_mono f3 (fun b k h => pR_229 h)), T3⟩
  rw [t206, am_ob_p (kk_187 T.1), s1, am_bV_p, am_ob_p (kk_187 T1.1), s2, am_bI_p, am_ob_p (kk_187 T2.1), s3, am_bV_p]
  simp (disch := omega) only [am_ob_p (kk_187 T3.1), rr_187_62 T3.1, am_gr_p, am_ix_p (kk_232 T3.1), am_i_ix, Int.toNat_natCast, e]
theorem call_pressing {L : Nat} {xs : Nat → Int32} {M : am_M} {W : am_Wo} {b : Nat} (R : Rel L xs M W b) (hb : b < 1000000000) (x y : Int32) : Call L xs 17 207 [.int x, .int y] M b := by
  obtain ⟨q, hq, S, HC, HM, B, h0⟩ := R
  obtain ⟨z, rfl, z1, z2⟩ := int_of x
  obtain ⟨w, rfl, w1, w2⟩ := int_of y
  have hh := qok_h hq
  have B1 := B.1
  have BA := B.2.2.2.1
  have hP5 := hB_P B1
  have bp := aB_p BA
  have b0 := is1_01 (wX W) 2 z
  have b1 := pas_01 (wA W) w 0 72
  have r1 := c_isP S hh HC.1 B1 z1 z2 598
  have r2 := c_canPass S HC.2.2.2.1 BA w1 w2 (lo := 0) (hi := 72) (by decide) (by decide) (by decide) 598
  by_cases g : is1 (wX W) 2 z = 1
  · by_cases g2 : pas (wA W) w 0 72 = 1
    · obtain ⟨p, rfl, hp⟩ := is1_ex g
      obtain ⟨n, rfl, hn1, hn2, hn3, hn4⟩ := pas_ex g2 (by decide) (by decide)
      obtain ⟨e1, e2, e3, o1, o2, o3⟩ := bit_q bp.1 hP5.2 bp.2 (show p < nP (wX W) by omega)
      obtain ⟨M1, s1, S1, f1, HA1, HK1, HQ1⟩ := c_lookAhead S hh HC.1 HC.2.2.1 HC.2.2.2.1 HC.2.2.2.2.1 (by omega) B1 B.2.2.1 BA o1.1 o1.2 hn1 hn2 592
      have HC1 := cWo_mv HC hq B1 (q' := (q.1, q.2.1, q.2.2.1, q.2.2.1)) rfl (fr_mono f1 (fun b k h => (pB_s h).1))
      obtain ⟨M1b, s1b, S1b, f1b, HA1b, HK1b, HQ1b⟩ := c_lookAhead S1 hh HC1.1 HC1.2.2.1 HC1.2.2.2.1 HC1.2.2.2.2.1 (by omega) B1 B.2.2.1 BA o2.1 o2.2 hn1 hn2 592
      have HM1 := mWo_mv HM B1 (M' := M1b) (fr_mono (fr_tr f1 f1b) (fun b k h => sM_lt (by unfold pB at h; omega)))
      have hqb := hours_q (G := wG W) B1 (s := (aP (wA W) (bon (wA W 1 0 0) p), qz, wK W)) (aB_aP BA o1.1 o1.2) p n (by dsimp only; rw [aP_t]; exact hn2)
      have hq0 : (aP (wA W) (bon (wA W 1 0 0) p), qz, wK W).2.1 0 p = 0 := rfl
      rw [hq0] at hqb
      have hqc := hours_q (G := wG W) B1 (s := (aP (wA W) (boff (wA W 1 0 0) p), qz, wK W)) (aB_aP BA o2.1 o2.2) p n (by dsimp only; rw [aP_t]; exact hn2)
      have hq1 : (aP (wA W) (boff (wA W 1 0 0) p), qz, wK W).2.1 0 p = 0 := rfl
      rw [hq1] at hqc
      obtain ⟨M2, s2, f2, T2⟩ := mTh_aside S1b HM1 B 598
      obtain ⟨M3, s3, f3, T3⟩ := m_pleasureBy T2 B o1.1 o1.2 (show p < 5 by omega) hn1 hn2 590
      obtain ⟨M4, s4, f4, T4⟩ := m_pleasureBy T3 B o2.1 o2.2 (show p < 5 by omega) hn1 hn2 590
      obtain ⟨M5, s5, f5, S5, HA5, h60⟩ := mTh_back T4 597
      have i1 := HQ1.1 p (by omega)
      have i2 := HQ1b.1 p (by omega)
      have eA := HC.2.2.2.1.2.1
      have eA1 := HC1.2.2.2.1.2.1
      have nz : (am_i 1 <<< (am_i (p : Int) &&& 31)) = (am_i 1 <<< (am_i (p : Int) &&& 31)) := rfl
      refine Call_ahead (v := .long (am_l ((hours (wX W) (wG W) (aP (wA W) (bon (wA W 1 0 0) p), qz, wK W) n).2.1 0 p - (hours (wX W) (wG W) (aP (wA W) (boff (wA W 1 0 0) p), qz, wK W) n).2.1 0 p))) (M1 := M1b) (M2 := M5) (lv _) hq HC HM B h0 ?_ (fr_mono (fr_tr f1 f1b) (fun b k h => pB_s h)) (qok_a hq) rfl ?_ (fr_tr (fr_tr (fr_tr f2 f3) f4) (fr_mono f5 (fun b k h => pR_back h))) HA5 h60 S5
      · rw [t17, am_ob_p (kk_2 S), r1, am_bI_p, am_br_eq (by omega) (by omega) (by omega) (by omega), if_p1 g, am_ob_p (kk_2 S), r2, am_bI_p, am_br_ne (by omega) (by omega) (by omega) (by omega), if_p1 g2, am_ob_p (kk_2 S), rr_2_3 S, am_gr_p, am_ob_p (kk_63 S), rr_63_1 S, am_gr_p, am_ob_p (kk_64 S), am_ob_p (kk_2 S), eA, e1, s1, am_bV_p]
        simp (disch := omega) only [am_ob_p (kk_2 S1), rr_2_4 S1, rr_2_3 S1, am_gr_p, am_ob_p (kk_75 S1), rr_75_2 S1, am_ix_p (kk_81 S1), am_i_ix, Int.toNat_natCast, i1, am_ob_p (kk_63 S1), rr_63_1 S1, am_ob_p (kk_64 S1), eA1, e2, am_i2l]
        rw [s1b, am_bV_p]
        simp (disch := omega) only [am_ob_p (kk_2 S1b), rr_2_4 S1b, am_gr_p, am_ob_p (kk_75 S1b), rr_75_2 S1b, am_ix_p (kk_81 S1b), am_i_ix, Int.toNat_natCast, i2, am_i2l, am_l_sub]
      · have r3 := m_isPerson S1b HM1.1 B1 z1 z2 597
        have r4 := m_isAhead S1b HM1.2.2.2.1 BA w1 w2 (lo := 0) (hi := 72) (by decide) (by decide) (by decide) 597
        rw [t207, am_ob_p (kk_187 S1b), r3, am_bI_p, am_br_eq (by omega) (by omega) (by omega) (by omega), if_p1 g, am_ob_p (kk_187 S1b), r4, am_bI_p, am_br_ne (by omega) (by omega) (by omega) (by omega), if_p1 g2, am_ob_p (kk_187 S1b), m_pressers S1b HM1.1 HM1.2.2.2.1 B1 BA, am_bI_p, am_ob_p (kk_187 S1b), s2, am_bV_p, am_ob_p (kk_187 T2.1), e1, s3, am_bL_p, am_ob_p (kk_187 T3.1), e2, s4, am_bL_p, am_ob_p (kk_187 T4.1), s5, am_bV_p, am_l_sub]
    · have g2' := pas_0 g2
      refine Call_same (v := .long (am_l (-1000000000000000))) (lv _) hq HC HM B h0 S ?_ ?_
      · rw [t17, am_ob_p (kk_2 S), r1, am_bI_p, am_br_eq (by omega) (by omega) (by omega) (by omega), if_p1 g, am_ob_p (kk_2 S), r2, am_bI_p, am_br_ne (by omega) (by omega) (by omega) (by omega), if_p0 g2']
      · rw [t207, am_ob_p (kk_187 S), m_isPerson S HM.1 B1 z1 z2, am_bI_p, am_br_eq (by omega) (by omega) (by omega) (by omega), if_p1 g, am_ob_p (kk_187 S), m_isAhead S HM.2.2.2.1 BA w1 w2 (by decide) (by decide) (by decide), am_bI_p, am_br_ne (by omega) (by omega) (by omega) (by omega), if_p0 g2']
  · have g' := is1_0 g
    refine Call_same (v := .long (am_l (-1000000000000000))) (lv _) hq HC HM B h0 S ?_ ?_
    · rw [t17, am_ob_p (kk_2 S), r1, am_bI_p, am_br_eq (by omega) (by omega) (by omega) (by omega), if_p0 g']
    · rw [t207, am_ob_p (kk_187 S), m_isPerson S HM.1 B1 z1 z2, am_bI_p, am_br_eq (by omega) (by omega) (by omega) (by omega), if_p0 g']
