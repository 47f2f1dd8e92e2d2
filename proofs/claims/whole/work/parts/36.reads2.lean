/-! More calls that only read. -/
theorem c_isK {L : Nat} {q : am_Pq} {M : am_M} (S : am_Sh L q M) (hh : isH q.2.2.1) {X : am_X} (HX : cH M q.2.2.1 X) (B : hB X) {w : Int} (h0 : -2147483648 ≤ w) (h1 : w < 2147483648) (d : Nat) : am_cl 40 d [.ref 2, .int (am_i 0), .int (am_i w)] M = some (some (.int (am_i (is1 X 0 w))), M) := c_isOne S hh HX B (sort := 0) (by decide) h0 h1 d
theorem c_isF {L : Nat} {q : am_Pq} {M : am_M} (S : am_Sh L q M) (hh : isH q.2.2.1) {X : am_X} (HX : cH M q.2.2.1 X) (B : hB X) {w : Int} (h0 : -2147483648 ≤ w) (h1 : w < 2147483648) (d : Nat) : am_cl 40 d [.ref 2, .int (am_i 1), .int (am_i w)] M = some (some (.int (am_i (is1 X 1 w))), M) := c_isOne S hh HX B (sort := 1) (by decide) h0 h1 d
theorem c_isP {L : Nat} {q : am_Pq} {M : am_M} (S : am_Sh L q M) (hh : isH q.2.2.1) {X : am_X} (HX : cH M q.2.2.1 X) (B : hB X) {w : Int} (h0 : -2147483648 ≤ w) (h1 : w < 2147483648) (d : Nat) : am_cl 40 d [.ref 2, .int (am_i 2), .int (am_i w)] M = some (some (.int (am_i (is1 X 2 w))), M) := c_isOne S hh HX B (sort := 2) (by decide) h0 h1 d
theorem m_hoursOf {L : Nat} {q0 : am_Pq} {M : am_M} (S : am_Sh L q0 M) {A : am_A} (HA : mA M A) {p : Nat} (hp : p < 5) (d : Nat) :
    am_cl 193 d [.ref 187, .int (am_i p)] M = some (some (.int (am_i (A 4 p 0))), M) := by
  have e := HA.2.2.2.2.2 p hp
  have u : ((86 : Int) + 2 * (p : Int) + 1).toNat = 87 + 2 * p := by omega
  rw [t193]
  simp (disch := omega) only [am_ob_p (kk_187 S), rr_187_54 S, am_ix_p (kk_229 S), am_gr_p, am_i_ix, Int.toNat_zero, Int.toNat_one, Int.toNat_natCast, Int.reduceToNat, am_lt, am_i_add, am_i_sub, am_i_mul, u, e]
theorem if_p1 {x : Int} (h : x = 1) (t f : am_Q) : (if x = 0 then t else f) = f := if_neg (by omega)
theorem if_p0 {x : Int} (h : x = 0) (t f : am_Q) : (if x = 0 then t else f) = t := if_pos h
theorem call_worth {L : Nat} {xs : Nat → Int32} {M : am_M} {W : am_Wo} {b : Nat} (R : Rel L xs M W b) (x y : Int32) : Call L xs 13 202 [.int x, .int y] M b := by
  obtain ⟨q, hq, S, HC, HM, B, h0⟩ := R
  obtain ⟨z, rfl, z1, z2⟩ := int_of x
  obtain ⟨w, rfl, w1, w2⟩ := int_of y
  have hh := qok_h hq
  have B1 := B.1
  have HX := HC.1
  have HY := HM.1
  have hF8 := hB_F B1
  have hP5 := hB_P B1
  have b0 := is1_01 (wX W) 2 z
  have b1 := is1_01 (wX W) 1 w
  have r1 := c_isP S hh HX B1 z1 z2 598
  have r2 := m_isPerson S HY B1 z1 z2 597
  have r3 := c_isF S hh HX B1 w1 w2 598
  have r4 := m_isFilm S HY B1 w1 w2 597
  by_cases g : is1 (wX W) 2 z = 1
  · by_cases g2 : is1 (wX W) 1 w = 1
    · obtain ⟨p, rfl, hp⟩ := is1_ex g
      obtain ⟨f, rfl, hf⟩ := is1_ex g2
      refine Call_same (v := .int (am_i (worth (wX W) p f))) (iv _) hq HC HM B h0 S ?_ ?_
      · rw [t13, am_ob_p (kk_2 S), r1, am_bI_p, am_br_eq (by omega) (by omega) (by omega) (by omega), if_p1 g, am_ob_p (kk_2 S), r3, am_bI_p, am_br_eq (by omega) (by omega) (by omega) (by omega), if_p1 g2]
        simp (disch := omega) only [am_ob_p (kk_2 S), am_ob_p (kk_3 S), am_ob_p (kk_63 S), am_ob_p (kk_64 S), rr_63_0 S, rr_63_1 S, rr_64_2 S, rr_64_3 S, rr_64_4 S, rr_64_5 S, rr_2_0 S, rr_2_1 S, rr_2_3 S, rr_2_4 S, rr_2_5 S, rr_2_8 S, rr_2_10 S, rr_2_12 S, rr_2_13 S, rr_2_14 S, am_ix_p (kk_30 S), am_iw_p (kk_30 S), am_ix_p (kk_33 S), am_iw_p (kk_33 S), am_ix_p (kk_34 S), am_iw_p (kk_34 S), am_ix_p (kk_35 S), am_iw_p (kk_35 S), am_ix_p (kk_36 S), am_iw_p (kk_36 S), am_ix_p (kk_37 S), am_iw_p (kk_37 S), am_ix_p (kk_65 S), am_iw_p (kk_65 S), am_ix_p (kk_66 S), am_iw_p (kk_66 S), am_ix_p (kk_67 S), am_iw_p (kk_67 S), am_ix_p (kk_68 S), am_iw_p (kk_68 S), am_ob_p (H_k0 S hh), am_ix_p (H_k1 S hh), am_iw_p (H_k1 S hh), am_ix_p (H_k6 S hh), am_iw_p (H_k6 S hh), am_ix_p (H_k16 S hh), am_iw_p (H_k16 S hh), am_ix_p (H_k17 S hh), am_iw_p (H_k17 S hh), am_ix_p (H_k24 S hh), am_iw_p (H_k24 S hh), H_r0_0 S hh, H_r0_1 S hh, H_r0_2 S hh, H_r0_3 S hh, H_r0_4 S hh, H_r0_5 S hh, H_r0_6 S hh, H_r0_15 S hh, H_r2 S hh, H_r7 S hh, H_r18 S hh, am_iq_p (H_k2 S hh), am_iq_p (H_k7 S hh), am_iq_p (H_k18 S hh), am_gr_p, c_worthOf S hh HX B1 (show p < nP (wX W) by omega) (show f < nF (wX W) by omega), am_bI_p]
      · rw [t202, am_ob_p (kk_187 S), r2, am_bI_p, am_br_eq (by omega) (by omega) (by omega) (by omega), if_p1 g, am_ob_p (kk_187 S), r4, am_bI_p, am_br_eq (by omega) (by omega) (by omega) (by omega), if_p1 g2, am_ob_p (kk_187 S), m_worthOf S HY B1 (show p < nP (wX W) by omega) (show f < nF (wX W) by omega), am_bI_p]
    · have g2' := is1_0 g2
      refine Call_same (v := .int (am_i (-1))) (iv _) hq HC HM B h0 S ?_ ?_
      · rw [t13, am_ob_p (kk_2 S), r1, am_bI_p, am_br_eq (by omega) (by omega) (by omega) (by omega), if_p1 g, am_ob_p (kk_2 S), r3, am_bI_p, am_br_eq (by omega) (by omega) (by omega) (by omega), if_p0 g2']
      · rw [t202, am_ob_p (kk_187 S), r2, am_bI_p, am_br_eq (by omega) (by omega) (by omega) (by omega), if_p1 g, am_ob_p (kk_187 S), r4, am_bI_p, am_br_eq (by omega) (by omega) (by omega) (by omega), if_p0 g2']
  · have g' := is1_0 g
    refine Call_same (v := .int (am_i (-1))) (iv _) hq HC HM B h0 S ?_ ?_
    · rw [t13, am_ob_p (kk_2 S), r1, am_bI_p, am_br_eq (by omega) (by omega) (by omega) (by omega), if_p0 g']
    · rw [t202, am_ob_p (kk_187 S), r2, am_bI_p, am_br_eq (by omega) (by omega) (by omega) (by omega), if_p0 g']
theorem call_suggest {L : Nat} {xs : Nat → Int32} {M : am_M} {W : am_Wo} {b : Nat} (R : Rel L xs M W b) (x : Int32) : Call L xs 12 201 [.int x] M b := by
  obtain ⟨q, hq, S, HC, HM, B, h0⟩ := R
  obtain ⟨z, rfl, z1, z2⟩ := int_of x
  have hh := qok_h hq
  have B1 := B.1
  have HX := HC.1
  have HY := HM.1
  have hP5 := hB_P B1
  have c63 : isC 63 := Or.inl rfl
  have b0 := is1_01 (wX W) 2 z
  have r1 := c_isP S hh HX B1 z1 z2 598
  have r2 := m_isPerson S HY B1 z1 z2 597
  by_cases g : is1 (wX W) 2 z = 1
  · obtain ⟨p, rfl, hp⟩ := is1_ex g
    obtain ⟨M1, s1, S1, f1⟩ := c_suggested S c63 hh (rr_63_0 S) HX HC.2.2.1 HC.2.2.2.1 B1 B.2.2.1 B.2.2.2.1 (show p < nP (wX W) by omega) 594
    have HM1 := mWo_mv HM B1 (M' := M1) (fr_mono f1 (fun b k h => sM_lt (by unfold pF at h; omega)))
    obtain ⟨M2, s2, S2, f2⟩ := m_suggestedTo S1 HM1.1 HM1.2.2.1 HM1.2.2.2.1 B1 B.2.2.1 B.2.2.2.1 (show p < nP (wX W) by omega) 593
    have r2' := m_isPerson S1 HM1.1 B1 z1 z2 597
    refine Call_of (v := .int (am_i (sug (wX W) (wG W) (wA W) p))) (M1 := M1) (M2 := M2) (iv _) hq HC HM B h0 ?_ (fr_mono f1 (fun b k h => ⟨sC_m (by unfold pF at h; omega), by unfold pF at h; omega⟩)) hq rfl ?_ (fr_mono f2 (fun b k h => pM_s h)) S2
    · rw [t12, am_ob_p (kk_2 S), r1, am_bI_p, am_br_eq (by omega) (by omega) (by omega) (by omega), if_p1 g, am_ob_p (kk_2 S), rr_2_3 S, am_gr_p, am_ob_p (kk_63 S), s1, am_bI_p]
    · rw [t201, am_ob_p (kk_187 S1), r2', am_bI_p, am_br_eq (by omega) (by omega) (by omega) (by omega), if_p1 g, am_ob_p (kk_187 S1), s2, am_bI_p]
  · have g' := is1_0 g
    refine Call_same (v := .int (am_i (-1))) (iv _) hq HC HM B h0 S ?_ ?_
    · rw [t12, am_ob_p (kk_2 S), r1, am_bI_p, am_br_eq (by omega) (by omega) (by omega) (by omega), if_p0 g']
    · rw [t201, am_ob_p (kk_187 S), r2, am_bI_p, am_br_eq (by omega) (by omega) (by omega) (by omega), if_p0 g']
theorem call_taste {L : Nat} {xs : Nat → Int32} {M : am_M} {W : am_Wo} {b : Nat} (R : Rel L xs M W b) (x y : Int32) : Call L xs 10 199 [.int x, .int y] M b := by
  obtain ⟨q, hq, S, HC, HM, B, h0⟩ := R
  obtain ⟨z, rfl, z1, z2⟩ := int_of x
  obtain ⟨w, rfl, w1, w2⟩ := int_of y
  have hh := qok_h hq
  have B1 := B.1
  have HX := HC.1
  have HY := HM.1
  have hK6 := hB_K B1
  have hP5 := hB_P B1
  have b0 := is1_01 (wX W) 2 z
  have b1 := is1_01 (wX W) 0 w
  have r1 := c_isP S hh HX B1 z1 z2 598
  have r2 := m_isPerson S HY B1 z1 z2 597
  have r3 := c_isK S hh HX B1 w1 w2 598
  have r4 := m_isKind S HY B1 w1 w2 597
  by_cases g : z = -1 ∨ is1 (wX W) 2 z = 1
  · have hq' : ∃ p : Nat, z + 1 = p ∧ p < 6 := by
      rcases g with g | g
      · exact ⟨0, by omega, by omega⟩
      · obtain ⟨p, rfl, hp⟩ := is1_ex g
        exact ⟨p + 1, by omega, by omega⟩
    obtain ⟨p, hp, hp6⟩ := hq'
    have go : ∀ v : Value, am_ev 10 599 14 [.ref 2, .int (am_i z), .int (am_i w)] [] M = some (some v, M) → am_cl 10 599 [.ref 2, .int (am_i z), .int (am_i w)] M = some (some v, M) := by
      intro v hv
      rw [t10, am_br_eq (by omega) (by omega) (by omega) (by omega)]
      by_cases g2 : z = -1
      · rw [if_pos g2]; exact hv
      · rw [if_neg g2, am_ob_p (kk_2 S), r1, am_bI_p, am_br_eq (by omega) (by omega) (by omega) (by omega), if_p1 (g.resolve_left g2)]; exact hv
    have go2 : ∀ v : Value, am_ev 199 599 13 [.ref 187, .int (am_i z), .int (am_i w)] [] M = some (some v, M) → am_cl 199 599 [.ref 187, .int (am_i z), .int (am_i w)] M = some (some v, M) := by
      intro v hv
      rw [t199, am_br_eq (by omega) (by omega) (by omega) (by omega)]
      by_cases g2 : z = -1
      · rw [if_pos g2]; exact hv
      · rw [if_neg g2, am_ob_p (kk_187 S), r2, am_bI_p, am_br_eq (by omega) (by omega) (by omega) (by omega), if_p1 (g.resolve_left g2)]; exact hv
    by_cases g2 : is1 (wX W) 0 w = 1
    · obtain ⟨k, rfl, hk⟩ := is1_ex g2
      have e1 := HC.2.2.2.1.2.2.1 p hp6 k (by omega)
      have e2 := HM.2.2.2.1.2.2.1 p hp6 k (by omega)
      have u1 : ((z + 1) * 6 + (k : Int)).toNat = 6 * p + k := by rw [hp]; omega
      have u2 : ((2 : Int) + 14 * (1 + z) + (k : Int)).toNat = 2 + 14 * p + k := by omega
      refine Call_same (v := .int (am_i (wA W 2 p k))) (iv _) hq HC HM B h0 S (go _ ?_) (go2 _ ?_)
      · rw [t10_14, am_ob_p (kk_2 S), r3, am_bI_p, am_br_ne (by omega) (by omega) (by omega) (by omega), if_p1 g2]
        simp (disch := omega) only [am_ob_p (kk_2 S), am_ob_p (kk_3 S), am_ob_p (kk_63 S), am_ob_p (kk_64 S), rr_63_0 S, rr_63_1 S, rr_64_2 S, rr_64_3 S, rr_64_4 S, rr_64_5 S, rr_2_0 S, rr_2_1 S, rr_2_3 S, rr_2_4 S, rr_2_5 S, rr_2_8 S, rr_2_10 S, rr_2_12 S, rr_2_13 S, rr_2_14 S, am_ix_p (kk_30 S), am_iw_p (kk_30 S), am_ix_p (kk_33 S), am_iw_p (kk_33 S), am_ix_p (kk_34 S), am_iw_p (kk_34 S), am_ix_p (kk_35 S), am_iw_p (kk_35 S), am_ix_p (kk_36 S), am_iw_p (kk_36 S), am_ix_p (kk_37 S), am_iw_p (kk_37 S), am_ix_p (kk_65 S), am_iw_p (kk_65 S), am_ix_p (kk_66 S), am_iw_p (kk_66 S), am_ix_p (kk_67 S), am_iw_p (kk_67 S), am_ix_p (kk_68 S), am_iw_p (kk_68 S), am_gr_p, am_i_ix, Int.toNat_zero, Int.toNat_one, Int.toNat_natCast, Int.reduceToNat, am_lt, am_i_add, am_i_sub, am_i_mul, u1, e1]
      · rw [t199_13, am_ob_p (kk_187 S), r4, am_bI_p, am_br_ne (by omega) (by omega) (by omega) (by omega), if_p1 g2]
        simp (disch := omega) only [am_ob_p (kk_187 S), rr_187_54 S, t171, am_bI_p, am_ix_p (kk_229 S), am_gr_p, am_i_ix, Int.toNat_zero, Int.toNat_one, Int.toNat_natCast, Int.reduceToNat, am_lt, am_i_add, am_i_sub, am_i_mul, u2, e2]
    · have g2' := is1_0 g2
      refine Call_same (v := .int (am_i (-1))) (iv _) hq HC HM B h0 S (go _ ?_) (go2 _ ?_)
      · rw [t10_14, am_ob_p (kk_2 S), r3, am_bI_p, am_br_ne (by omega) (by omega) (by omega) (by omega), if_p0 g2']
      · rw [t199_13, am_ob_p (kk_187 S), r4, am_bI_p, am_br_ne (by omega) (by omega) (by omega) (by omega), if_p0 g2']
  · have g' := is1_0 (fun h => g (Or.inr h))
    refine Call_same (v := .int (am_i (-1))) (iv _) hq HC HM B h0 S ?_ ?_
    · rw [t10, am_br_eq (by omega) (by omega) (by omega) (by omega), if_neg (fun h => g (Or.inl h)), am_ob_p (kk_2 S), r1, am_bI_p, am_br_eq (by omega) (by omega) (by omega) (by omega), if_p0 g']
    · rw [t199, am_br_eq (by omega) (by omega) (by omega) (by omega), if_neg (fun h => g (Or.inl h)), am_ob_p (kk_187 S), r2, am_bI_p, am_br_eq (by omega) (by omega) (by omega) (by omega), if_p0 g']
theorem call_seen {L : Nat} {xs : Nat → Int32} {M : am_M} {W : am_Wo} {b : Nat} (R : Rel L xs M W b) (x y : Int32) : Call L xs 11 200 [.int x, .int y] M b := by
  obtain ⟨q, hq, S, HC, HM, B, h0⟩ := R
  obtain ⟨z, rfl, z1, z2⟩ := int_of x
  obtain ⟨w, rfl, w1, w2⟩ := int_of y
  have hh := qok_h hq
  have B1 := B.1
  have HX := HC.1
  have HY := HM.1
  have hF8 := hB_F B1
  have hP5 := hB_P B1
  have b0 := is1_01 (wX W) 2 z
  have b1 := is1_01 (wX W) 1 w
  have r1 := c_isP S hh HX B1 z1 z2 598
  have r2 := m_isPerson S HY B1 z1 z2 597
  have r3 := c_isF S hh HX B1 w1 w2 598
  have r4 := m_isFilm S HY B1 w1 w2 597
  by_cases g : z = -1 ∨ is1 (wX W) 2 z = 1
  · have hq' : ∃ p : Nat, z + 1 = p ∧ p < 6 := by
      rcases g with g | g
      · exact ⟨0, by omega, by omega⟩
      · obtain ⟨p, rfl, hp⟩ := is1_ex g
        exact ⟨p + 1, by omega, by omega⟩
    obtain ⟨p, hp, hp6⟩ := hq'
    have go : ∀ v : Value, am_ev 11 599 14 [.ref 2, .int (am_i z), .int (am_i w)] [] M = some (some v, M) → am_cl 11 599 [.ref 2, .int (am_i z), .int (am_i w)] M = some (some v, M) := by
      intro v hv
      rw [t11, am_br_eq (by omega) (by omega) (by omega) (by omega)]
      by_cases g2 : z = -1
      · rw [if_pos g2]; exact hv
      · rw [if_neg g2, am_ob_p (kk_2 S), r1, am_bI_p, am_br_eq (by omega) (by omega) (by omega) (by omega), if_p1 (g.resolve_left g2)]; exact hv
    have go2 : ∀ v : Value, am_ev 200 599 13 [.ref 187, .int (am_i z), .int (am_i w)] [] M = some (some v, M) → am_cl 200 599 [.ref 187, .int (am_i z), .int (am_i w)] M = some (some v, M) := by
      intro v hv
      rw [t200, am_br_eq (by omega) (by omega) (by omega) (by omega)]
      by_cases g2 : z = -1
      · rw [if_pos g2]; exact hv
      · rw [if_neg g2, am_ob_p (kk_187 S), r2, am_bI_p, am_br_eq (by omega) (by omega) (by omega) (by omega), if_p1 (g.resolve_left g2)]; exact hv
    by_cases g2 : is1 (wX W) 1 w = 1
    · obtain ⟨k, rfl, hk⟩ := is1_ex g2
      have e1 := HC.2.2.2.1.2.2.2.1 p hp6 k (by omega)
      have u1 : ((z + 1) * 8 + (k : Int)).toNat = 8 * p + k := by rw [hp]; omega
      have u2 : (1 + z : Int) = p := by omega
      refine Call_same (v := .int (am_i (wA W 3 p k))) (iv _) hq HC HM B h0 S (go _ ?_) (go2 _ ?_)
      · rw [t11_14, am_ob_p (kk_2 S), r3, am_bI_p, am_br_ne (by omega) (by omega) (by omega) (by omega), if_p1 g2]
        simp (disch := omega) only [am_ob_p (kk_2 S), am_ob_p (kk_3 S), am_ob_p (kk_63 S), am_ob_p (kk_64 S), rr_63_0 S, rr_63_1 S, rr_64_2 S, rr_64_3 S, rr_64_4 S, rr_64_5 S, rr_2_0 S, rr_2_1 S, rr_2_3 S, rr_2_4 S, rr_2_5 S, rr_2_8 S, rr_2_10 S, rr_2_12 S, rr_2_13 S, rr_2_14 S, am_ix_p (kk_30 S), am_iw_p (kk_30 S), am_ix_p (kk_33 S), am_iw_p (kk_33 S), am_ix_p (kk_34 S), am_iw_p (kk_34 S), am_ix_p (kk_35 S), am_iw_p (kk_35 S), am_ix_p (kk_36 S), am_iw_p (kk_36 S), am_ix_p (kk_37 S), am_iw_p (kk_37 S), am_ix_p (kk_65 S), am_iw_p (kk_65 S), am_ix_p (kk_66 S), am_iw_p (kk_66 S), am_ix_p (kk_67 S), am_iw_p (kk_67 S), am_ix_p (kk_68 S), am_iw_p (kk_68 S), am_gr_p, am_i_ix, Int.toNat_zero, Int.toNat_one, Int.toNat_natCast, Int.reduceToNat, am_lt, am_i_add, am_i_sub, am_i_mul, u1, e1]
      · rw [t200_13, am_ob_p (kk_187 S), r4, am_bI_p, am_br_ne (by omega) (by omega) (by omega) (by omega), if_p1 g2, am_ob_p (kk_187 S), am_i_add, u2, m_seenBy S HM.2.2.2.1 hp6 (show k < 8 by omega), am_bI_p]
    · have g2' := is1_0 g2
      refine Call_same (v := .int (am_i (-1))) (iv _) hq HC HM B h0 S (go _ ?_) (go2 _ ?_)
      · rw [t11_14, am_ob_p (kk_2 S), r3, am_bI_p, am_br_ne (by omega) (by omega) (by omega) (by omega), if_p0 g2']
      · rw [t200_13, am_ob_p (kk_187 S), r4, am_bI_p, am_br_ne (by omega) (by omega) (by omega) (by omega), if_p0 g2']
  · have g' := is1_0 (fun h => g (Or.inr h))
    refine Call_same (v := .int (am_i (-1))) (iv _) hq HC HM B h0 S ?_ ?_
    · rw [t11, am_br_eq (by omega) (by omega) (by omega) (by omega), if_neg (fun h => g (Or.inl h)), am_ob_p (kk_2 S), r1, am_bI_p, am_br_eq (by omega) (by omega) (by omega) (by omega), if_p0 g']
    · rw [t200, am_br_eq (by omega) (by omega) (by omega) (by omega), if_neg (fun h => g (Or.inl h)), am_ob_p (kk_187 S), r2, am_bI_p, am_br_eq (by omega) (by omega) (by omega) (by omega), if_p0 g']
/-- a person's hours, all together -/
def sawAll (X : am_X) (A : am_A) : Int := sm (fun p => A 4 p 0) (nP X)
theorem sawAll_bd {X : am_X} {A : am_A} (B : hB X) (BA : aB X A) : 0 ≤ sawAll X A ∧ sawAll X A ≤ 49995 := by
  have hP5 := (hB_P B).2
  have h := sm_bd (f := fun p => A 4 p 0) (n := nP X) (c := 9999) (fun p hp => aB_sa BA (by omega))
  unfold sawAll
  omega
theorem c_sawTogether {L : Nat} {q : am_Pq} {M : am_M} (S : am_Sh L q M) (hh : isH q.2.2.1) {X : am_X} {A : am_A} (HX : cH M q.2.2.1 X) (HA : cA M 64 A) (B : hB X) (d : Nat) : am_cl 42 d [.ref 2] M = some (some (.int (am_i (sawAll X A))), M) := by
  obtain ⟨hPP, hP5⟩ := hB_P B
  have e2 := HX.1 2 (by decide)
  have key : ∀ m n : Nat, n + m = nP X → am_ev 42 d 4 [.ref 2, .int (am_i (sm (fun p => A 4 p 0) n)), .int (am_i n)] [] M = some (some (.int (am_i (sawAll X A))), M) := by
    intro m
    induction m with
    | zero =>
      intro n hn
      have : n = nP X := by omega
      subst this
      rw [t42_4]
      simp (disch := omega) only [am_ob_p (kk_2 S), am_ob_p (kk_3 S), am_ob_p (kk_63 S), am_ob_p (kk_64 S), rr_63_0 S, rr_63_1 S, rr_64_2 S, rr_64_3 S, rr_64_4 S, rr_64_5 S, rr_2_0 S, rr_2_1 S, rr_2_3 S, rr_2_4 S, rr_2_5 S, rr_2_8 S, rr_2_10 S, rr_2_12 S, rr_2_13 S, rr_2_14 S, am_ix_p (kk_30 S), am_iw_p (kk_30 S), am_ix_p (kk_33 S), am_iw_p (kk_33 S), am_ix_p (kk_34 S), am_iw_p (kk_34 S), am_ix_p (kk_35 S), am_iw_p (kk_35 S), am_ix_p (kk_36 S), am_iw_p (kk_36 S), am_ix_p (kk_37 S), am_iw_p (kk_37 S), am_ix_p (kk_65 S), am_iw_p (kk_65 S), am_ix_p (kk_66 S), am_iw_p (kk_66 S), am_ix_p (kk_67 S), am_iw_p (kk_67 S), am_ix_p (kk_68 S), am_iw_p (kk_68 S), am_ob_p (H_k0 S hh), am_ix_p (H_k1 S hh), am_iw_p (H_k1 S hh), am_ix_p (H_k6 S hh), am_iw_p (H_k6 S hh), am_ix_p (H_k16 S hh), am_iw_p (H_k16 S hh), am_ix_p (H_k17 S hh), am_iw_p (H_k17 S hh), am_ix_p (H_k24 S hh), am_iw_p (H_k24 S hh), H_r0_0 S hh, H_r0_1 S hh, H_r0_2 S hh, H_r0_3 S hh, H_r0_4 S hh, H_r0_5 S hh, H_r0_6 S hh, H_r0_15 S hh, H_r2 S hh, H_r7 S hh, H_r18 S hh, am_iq_p (H_k2 S hh), am_iq_p (H_k7 S hh), am_iq_p (H_k18 S hh), am_gr_p, am_i_ix, Int.toNat_zero, Int.toNat_one, Int.toNat_natCast, Int.reduceToNat, am_lt, am_i_add, am_i_sub, am_i_mul, e2, am_br_ge]
      rw [if_pos (by omega)]
      rfl
    | succ m ih =>
      intro n hn
      have e4 := HA.2.2.2.2 n (by omega)
      rw [t42_4]
      simp (disch := omega) only [am_ob_p (kk_2 S), am_ob_p (kk_3 S), am_ob_p (kk_63 S), am_ob_p (kk_64 S), rr_63_0 S, rr_63_1 S, rr_64_2 S, rr_64_3 S, rr_64_4 S, rr_64_5 S, rr_2_0 S, rr_2_1 S, rr_2_3 S, rr_2_4 S, rr_2_5 S, rr_2_8 S, rr_2_10 S, rr_2_12 S, rr_2_13 S, rr_2_14 S, am_ix_p (kk_30 S), am_iw_p (kk_30 S), am_ix_p (kk_33 S), am_iw_p (kk_33 S), am_ix_p (kk_34 S), am_iw_p (kk_34 S), am_ix_p (kk_35 S), am_iw_p (kk_35 S), am_ix_p (kk_36 S), am_iw_p (kk_36 S), am_ix_p (kk_37 S), am_iw_p (kk_37 S), am_ix_p (kk_65 S), am_iw_p (kk_65 S), am_ix_p (kk_66 S), am_iw_p (kk_66 S), am_ix_p (kk_67 S), am_iw_p (kk_67 S), am_ix_p (kk_68 S), am_iw_p (kk_68 S), am_ob_p (H_k0 S hh), am_ix_p (H_k1 S hh), am_iw_p (H_k1 S hh), am_ix_p (H_k6 S hh), am_iw_p (H_k6 S hh), am_ix_p (H_k16 S hh), am_iw_p (H_k16 S hh), am_ix_p (H_k17 S hh), am_iw_p (H_k17 S hh), am_ix_p (H_k24 S hh), am_iw_p (H_k24 S hh), H_r0_0 S hh, H_r0_1 S hh, H_r0_2 S hh, H_r0_3 S hh, H_r0_4 S hh, H_r0_5 S hh, H_r0_6 S hh, H_r0_15 S hh, H_r2 S hh, H_r7 S hh, H_r18 S hh, am_iq_p (H_k2 S hh), am_iq_p (H_k7 S hh), am_iq_p (H_k18 S hh), am_gr_p, am_i_ix, Int.toNat_zero, Int.toNat_one, Int.toNat_natCast, Int.reduceToNat, am_lt, am_i_add, am_i_sub, am_i_mul, e2, e4, am_br_ge]
      rw [if_neg (by omega)]
      exact ih (n + 1) (by omega)
  rw [t42]
  exact key (nP X) 0 (by omega)
theorem m_hoursAll {L : Nat} {q : am_Pq} {M : am_M} (S : am_Sh L q M) {X : am_X} {A : am_A} (HX : mH M X) (HA : mA M A) (B : hB X) (d : Nat) : am_cl 194 (d + 1) [.ref 187] M = some (some (.int (am_i (sawAll X A))), M) := by
  obtain ⟨hPP, hP5⟩ := hB_P B
  have key : ∀ m n : Nat, n + m = nP X → am_ev 194 (d + 1) 4 [.ref 187, .int (am_i (sm (fun p => A 4 p 0) n)), .int (am_i n)] [] M = some (some (.int (am_i (sawAll X A))), M) := by
    intro m
    induction m with
    | zero =>
      intro n hn
      have : n = nP X := by omega
      subst this
      rw [t194_4]
      simp (disch := omega) only [am_ob_p (kk_187 S), m_personMany S HX, am_bI_p, am_br_ge]
      rw [if_pos (by omega)]
      rfl
    | succ m ih =>
      intro n hn
      rw [t194_4]
      simp (disch := omega) only [am_ob_p (kk_187 S), m_personMany S HX, am_bI_p, am_br_ge, m_hoursOf S HA, am_i_add]
      rw [if_neg (by omega)]
      exact ih (n + 1) (by omega)
  rw [t194]
  exact key (nP X) 0 (by omega)
/-- how many bits are set -/
def bcnt (P : Nat) : Int := ((P % 2 + P / 2 % 2 + P / 4 % 2 + P / 8 % 2 + P / 16 % 2 : Nat) : Int)
theorem j_bitCount_0 : ∀ P : Fin 32, ((((let u1 := (am_i (P.val : Int) - ((((am_i (P.val : Int)).toUInt32 >>> ((am_i 1).toUInt32 &&& Int32.toUInt32 31)).toInt32) &&& (am_i 1431655765))); let u2 := ((u1 &&& (am_i 858993459)) + (((u1.toUInt32 >>> ((am_i 2).toUInt32 &&& Int32.toUInt32 31)).toInt32) &&& (am_i 858993459))); let u3 := ((u2 + ((u2.toUInt32 >>> ((am_i 4).toUInt32 &&& Int32.toUInt32 31)).toInt32)) &&& (am_i 252645135)); let u4 := (u3 + ((u3.toUInt32 >>> ((am_i 8).toUInt32 &&& Int32.toUInt32 31)).toInt32)); let u5 := (u4 + ((u4.toUInt32 >>> ((am_i 16).toUInt32 &&& Int32.toUInt32 31)).toInt32)); u5 &&& (am_i 63))))) = am_i (bcnt P.val) := by decide +kernel
theorem j_bitCount {M : am_M} {P : Int} (h0 : 0 ≤ P) (h1 : P < 32) (d : Nat) : am_cl 272 d [.int (am_i P)] M = some (some (.int (am_i (bcnt P.toNat))), M) := by
  have h := j_bitCount_0 ⟨P.toNat, by omega⟩
  have e : ((P.toNat : Nat) : Int) = P := by omega
  simp only [e] at h
  rw [t272]
  simp only [am_lt]
  exact congrArg (fun v => some (some (Value.int v), M)) h
theorem m_bits {M : am_M} {P : Int} (h0 : 0 ≤ P) (h1 : P < 32) (d : Nat) : am_cl 192 d [.int (am_i P)] M = some (some (.int (am_i (bcnt P.toNat))), M) := by
  have st : ∀ m : Fin 32, am_i (m.val : Int) &&& (am_i (m.val : Int) - am_i 1) = am_i ((m.val &&& (m.val - 1) : Nat) : Int) ∧ (m.val ≠ 0 → (m.val &&& (m.val - 1)) < m.val ∧ bcnt m.val = bcnt (m.val &&& (m.val - 1)) + 1) := by decide +kernel
  have key : ∀ n m : Nat, m ≤ n → m < 32 → ∀ (v0 : Value) (c : Int), am_ev 192 d 4 [v0, .int (am_i c), .int (am_i (m : Int))] [] M = some (some (.int (am_i (c + bcnt m))), M) := by
    intro n
    induction n with
    | zero =>
      intro m hm h32 v0 c
      have : m = 0 := by omega
      subst this
      rw [t192_4, am_br_eq (by omega) (by omega) (by omega) (by omega), if_pos (by rfl)]
      have : bcnt 0 = 0 := rfl
      rw [this, Int.add_zero]
    | succ n ih =>
      intro m hm h32 v0 c
      obtain ⟨s1, s2⟩ := st ⟨m, h32⟩
      rw [t192_4, am_br_eq (by omega) (by omega) (by omega) (by omega)]
      by_cases g : m = 0
      · subst g
        rw [if_pos (by rfl)]
        have : bcnt 0 = 0 := rfl
        rw [this, Int.add_zero]
      · obtain ⟨s3, s4⟩ := s2 g
        simp only [] at s1 s3 s4
        rw [if_neg (by omega), s1, am_i_add, ih _ (by omega) (by omega), s4]
        have : c + 1 + bcnt (m &&& (m - 1)) = c + (bcnt (m &&& (m - 1)) + 1) := by omega
        rw [this]
  rw [t192]
  have e : ((P.toNat : Nat) : Int) = P := by omega
  have := key P.toNat P.toNat (Nat.le_refl _) (by omega) (.int (am_i P)) 0
  rw [e, Int.zero_add] at this
  exact this
theorem c_keptCount {L : Nat} {q : am_Pq} {M : am_M} (S : am_Sh L q M) {a : Nat} (ha : am_K M a = (1, 0)) {K : List Int} {b : Nat} (HK : cK M a K b) (hb : b < 2000000000) (d : Nat) : am_cl 68 (d + 1) [.ref a] M = some (some (.int (am_i K.length)), M) := by
  obtain ⟨e, k1, k2, k3, k4⟩ := HK
  rw [t68, am_ob_p ha, k2, j_minI (by omega) (by omega) (by omega) (by omega), am_bI_p]
  have : (if (40 : Int) < (e : Int) then (40 : Int) else (e : Int)) = K.length := by
    rw [k3]
    split <;> split <;> omega
  rw [this]
theorem call_has {L : Nat} {xs : Nat → Int32} {M : am_M} {W : am_Wo} {b : Nat} (R : Rel L xs M W b) (hb : b < 1000000000) (x : Int32) : Call L xs 6 195 [.int x] M b := by
  obtain ⟨q, hq, S, HC, HM, B, h0⟩ := R
  obtain ⟨z, rfl, z1, z2⟩ := int_of x
  have hh := qok_h hq
  have B1 := B.1
  have BA := B.2.2.2.1
  have HX := HC.1
  have HY := HM.1
  have bt := aB_t BA
  have bp := aB_p5 B1 BA
  by_cases g : 0 ≤ z ∧ z ≤ 10
  · have hz : z = 0 ∨ z = 1 ∨ z = 2 ∨ z = 3 ∨ z = 4 ∨ z = 5 ∨ z = 6 ∨ z = 7 ∨ z = 8 ∨ z = 9 ∨ z = 10 := by omega
    rcases hz with rfl | rfl | rfl | rfl | rfl | rfl | rfl | rfl | rfl | rfl | rfl
    · have e1 := HX.1 0 (by decide)
      have e2 := HY.1 0 (by decide)
      refine Call_same (v := .int (am_i (wX W 0 0 0))) (iv _) hq HC HM B h0 S ?_ ?_
      · rw [t6, am_si_t (by omega)]
        simp (disch := omega) only [am_ob_p (kk_2 S), am_ob_p (kk_3 S), am_ob_p (kk_63 S), am_ob_p (kk_64 S), rr_63_0 S, rr_63_1 S, rr_64_2 S, rr_64_3 S, rr_64_4 S, rr_64_5 S, rr_2_0 S, rr_2_1 S, rr_2_3 S, rr_2_4 S, rr_2_5 S, rr_2_8 S, rr_2_10 S, rr_2_12 S, rr_2_13 S, rr_2_14 S, am_ix_p (kk_30 S), am_iw_p (kk_30 S), am_ix_p (kk_33 S), am_iw_p (kk_33 S), am_ix_p (kk_34 S), am_iw_p (kk_34 S), am_ix_p (kk_35 S), am_iw_p (kk_35 S), am_ix_p (kk_36 S), am_iw_p (kk_36 S), am_ix_p (kk_37 S), am_iw_p (kk_37 S), am_ix_p (kk_65 S), am_iw_p (kk_65 S), am_ix_p (kk_66 S), am_iw_p (kk_66 S), am_ix_p (kk_67 S), am_iw_p (kk_67 S), am_ix_p (kk_68 S), am_iw_p (kk_68 S), am_ob_p (H_k0 S hh), am_ix_p (H_k1 S hh), am_iw_p (H_k1 S hh), am_ix_p (H_k6 S hh), am_iw_p (H_k6 S hh), am_ix_p (H_k16 S hh), am_iw_p (H_k16 S hh), am_ix_p (H_k17 S hh), am_iw_p (H_k17 S hh), am_ix_p (H_k24 S hh), am_iw_p (H_k24 S hh), H_r0_0 S hh, H_r0_1 S hh, H_r0_2 S hh, H_r0_3 S hh, H_r0_4 S hh, H_r0_5 S hh, H_r0_6 S hh, H_r0_15 S hh, H_r2 S hh, H_r7 S hh, H_r18 S hh, am_iq_p (H_k2 S hh), am_iq_p (H_k7 S hh), am_iq_p (H_k18 S hh), am_gr_p, am_i_ix, Int.toNat_zero, Int.toNat_one, Int.toNat_natCast, Int.reduceToNat, am_lt, am_i_add, am_i_sub, am_i_mul, e1]
      · rw [t195, am_si_t (by omega)]
        simp (disch := omega) only [am_ob_p (kk_187 S), rr_187_40 S, am_ix_p (kk_219 S), am_gr_p, am_i_ix, Int.toNat_zero, Int.toNat_one, Int.toNat_natCast, Int.reduceToNat, am_lt, am_i_add, am_i_sub, am_i_mul, Int.add_zero, Nat.add_zero, e2]
    · have e1 := HX.1 1 (by decide)
      have e2 : am_I M 219 4 = am_i (wX W 0 1 0) := HY.1 1 (by decide)
      refine Call_same (v := .int (am_i (wX W 0 1 0))) (iv _) hq HC HM B h0 S ?_ ?_
      · rw [t6, am_si_f (by omega), am_si_t (by omega)]
        simp (disch := omega) only [am_ob_p (kk_2 S), am_ob_p (kk_3 S), am_ob_p (kk_63 S), am_ob_p (kk_64 S), rr_63_0 S, rr_63_1 S, rr_64_2 S, rr_64_3 S, rr_64_4 S, rr_64_5 S, rr_2_0 S, rr_2_1 S, rr_2_3 S, rr_2_4 S, rr_2_5 S, rr_2_8 S, rr_2_10 S, rr_2_12 S, rr_2_13 S, rr_2_14 S, am_ix_p (kk_30 S), am_iw_p (kk_30 S), am_ix_p (kk_33 S), am_iw_p (kk_33 S), am_ix_p (kk_34 S), am_iw_p (kk_34 S), am_ix_p (kk_35 S), am_iw_p (kk_35 S), am_ix_p (kk_36 S), am_iw_p (kk_36 S), am_ix_p (kk_37 S), am_iw_p (kk_37 S), am_ix_p (kk_65 S), am_iw_p (kk_65 S), am_ix_p (kk_66 S), am_iw_p (kk_66 S), am_ix_p (kk_67 S), am_iw_p (kk_67 S), am_ix_p (kk_68 S), am_iw_p (kk_68 S), am_ob_p (H_k0 S hh), am_ix_p (H_k1 S hh), am_iw_p (H_k1 S hh), am_ix_p (H_k6 S hh), am_iw_p (H_k6 S hh), am_ix_p (H_k16 S hh), am_iw_p (H_k16 S hh), am_ix_p (H_k17 S hh), am_iw_p (H_k17 S hh), am_ix_p (H_k24 S hh), am_iw_p (H_k24 S hh), H_r0_0 S hh, H_r0_1 S hh, H_r0_2 S hh, H_r0_3 S hh, H_r0_4 S hh, H_r0_5 S hh, H_r0_6 S hh, H_r0_15 S hh, H_r2 S hh, H_r7 S hh, H_r18 S hh, am_iq_p (H_k2 S hh), am_iq_p (H_k7 S hh), am_iq_p (H_k18 S hh), am_gr_p, am_i_ix, Int.toNat_zero, Int.toNat_one, Int.toNat_natCast, Int.reduceToNat, am_lt, am_i_add, am_i_sub, am_i_mul, e1]
      · rw [t195, am_si_f (by omega), am_si_t (by omega)]
        simp (disch := omega) only [am_ob_p (kk_187 S), rr_187_40 S, am_ix_p (kk_219 S), am_gr_p, am_i_ix, Int.toNat_zero, Int.toNat_one, Int.toNat_natCast, Int.reduceToNat, am_lt, am_i_add, am_i_sub, am_i_mul, Int.reduceAdd, e2]
    · have e1 := HX.1 2 (by decide)
      have e2 : am_I M 219 5 = am_i (wX W 0 2 0) := HY.1 2 (by decide)
      refine Call_same (v := .int (am_i (wX W 0 2 0))) (iv _) hq HC HM B h0 S ?_ ?_
      · rw [t6, am_si_f (by omega), am_si_f (by omega), am_si_t (by omega)]
        simp (disch := omega) only [am_ob_p (kk_2 S), am_ob_p (kk_3 S), am_ob_p (kk_63 S), am_ob_p (kk_64 S), rr_63_0 S, rr_63_1 S, rr_64_2 S, rr_64_3 S, rr_64_4 S, rr_64_5 S, rr_2_0 S, rr_2_1 S, rr_2_3 S, rr_2_4 S, rr_2_5 S, rr_2_8 S, rr_2_10 S, rr_2_12 S, rr_2_13 S, rr_2_14 S, am_ix_p (kk_30 S), am_iw_p (kk_30 S), am_ix_p (kk_33 S), am_iw_p (kk_33 S), am_ix_p (kk_34 S), am_iw_p (kk_34 S), am_ix_p (kk_35 S), am_iw_p (kk_35 S), am_ix_p (kk_36 S), am_iw_p (kk_36 S), am_ix_p (kk_37 S), am_iw_p (kk_37 S), am_ix_p (kk_65 S), am_iw_p (kk_65 S), am_ix_p (kk_66 S), am_iw_p (kk_66 S), am_ix_p (kk_67 S), am_iw_p (kk_67 S), am_ix_p (kk_68 S), am_iw_p (kk_68 S), am_ob_p (H_k0 S hh), am_ix_p (H_k1 S hh), am_iw_p (H_k1 S hh), am_ix_p (H_k6 S hh), am_iw_p (H_k6 S hh), am_ix_p (H_k16 S hh), am_iw_p (H_k16 S hh), am_ix_p (H_k17 S hh), am_iw_p (H_k17 S hh), am_ix_p (H_k24 S hh), am_iw_p (H_k24 S hh), H_r0_0 S hh, H_r0_1 S hh, H_r0_2 S hh, H_r0_3 S hh, H_r0_4 S hh, H_r0_5 S hh, H_r0_6 S hh, H_r0_15 S hh, H_r2 S hh, H_r7 S hh, H_r18 S hh, am_iq_p (H_k2 S hh), am_iq_p (H_k7 S hh), am_iq_p (H_k18 S hh), am_gr_p, am_i_ix, Int.toNat_zero, Int.toNat_one, Int.toNat_natCast, Int.reduceToNat, am_lt, am_i_add, am_i_sub, am_i_mul, e1]
      · rw [t195, am_si_f (by omega), am_si_f (by omega), am_si_t (by omega)]
        simp (disch := omega) only [am_ob_p (kk_187 S), rr_187_40 S, am_ix_p (kk_219 S), am_gr_p, am_i_ix, Int.toNat_zero, Int.toNat_one, Int.toNat_natCast, Int.reduceToNat, am_lt, am_i_add, am_i_sub, am_i_mul, Int.reduceAdd, e2]
    · have e1 : am_I M q.2.2.1 8 = am_i (wX W 8 0 0) := HX.2.2.2.2.2.2 1 (by decide)
      have e2 : am_I M 225 4 = am_i (wX W 8 0 0) := HY.2.2.2.2.2.2 0 (by decide)
      refine Call_same (v := .int (am_i (wX W 8 0 0))) (iv _) hq HC HM B h0 S ?_ ?_
      · rw [t6]
        repeat rw [am_si_f (by omega)]
        rw [am_si_t (by omega)]
        simp (disch := omega) only [am_ob_p (kk_2 S), am_ob_p (kk_3 S), am_ob_p (kk_63 S), am_ob_p (kk_64 S), rr_63_0 S, rr_63_1 S, rr_64_2 S, rr_64_3 S, rr_64_4 S, rr_64_5 S, rr_2_0 S, rr_2_1 S, rr_2_3 S, rr_2_4 S, rr_2_5 S, rr_2_8 S, rr_2_10 S, rr_2_12 S, rr_2_13 S, rr_2_14 S, am_ix_p (kk_30 S), am_iw_p (kk_30 S), am_ix_p (kk_33 S), am_iw_p (kk_33 S), am_ix_p (kk_34 S), am_iw_p (kk_34 S), am_ix_p (kk_35 S), am_iw_p (kk_35 S), am_ix_p (kk_36 S), am_iw_p (kk_36 S), am_ix_p (kk_37 S), am_iw_p (kk_37 S), am_ix_p (kk_65 S), am_iw_p (kk_65 S), am_ix_p (kk_66 S), am_iw_p (kk_66 S), am_ix_p (kk_67 S), am_iw_p (kk_67 S), am_ix_p (kk_68 S), am_iw_p (kk_68 S), am_ob_p (H_k0 S hh), am_ix_p (H_k1 S hh), am_iw_p (H_k1 S hh), am_ix_p (H_k6 S hh), am_iw_p (H_k6 S hh), am_ix_p (H_k16 S hh), am_iw_p (H_k16 S hh), am_ix_p (H_k17 S hh), am_iw_p (H_k17 S hh), am_ix_p (H_k24 S hh), am_iw_p (H_k24 S hh), H_r0_0 S hh, H_r0_1 S hh, H_r0_2 S hh, H_r0_3 S hh, H_r0_4 S hh, H_r0_5 S hh, H_r0_6 S hh, H_r0_15 S hh, H_r2 S hh, H_r7 S hh, H_r18 S hh, am_iq_p (H_k2 S hh), am_iq_p (H_k7 S hh), am_iq_p (H_k18 S hh), am_gr_p, am_i_ix, Int.toNat_zero, Int.toNat_one, Int.toNat_natCast, Int.reduceToNat, am_lt, am_i_add, am_i_sub, am_i_mul, e1]
      · rw [t195]
        repeat rw [am_si_f (by omega)]
        rw [am_si_t (by omega)]
        simp (disch := omega) only [am_ob_p (kk_187 S), rr_187_47 S, am_ix_p (kk_225 S), am_gr_p, am_i_ix, Int.toNat_zero, Int.toNat_one, Int.toNat_natCast, Int.reduceToNat, am_lt, am_i_add, am_i_sub, am_i_mul, e2]
    · have e1 := HC.2.2.2.1.1
      have e2 := HM.2.2.2.1.1
      have e3 : am_i (wA W 0 0 0) / am_i 24 = am_i (wA W 0 0 0 / 24) := am_i_div (by omega) (by omega) (by omega) (by omega)
      refine Call_same (v := .int (am_i (wA W 0 0 0 / 24))) (iv _) hq HC HM B h0 S ?_ ?_
      · rw [t6]
        repeat rw [am_si_f (by omega)]
        rw [am_si_t (by omega)]
        simp (disch := omega) only [am_ob_p (kk_2 S), am_ob_p (kk_3 S), am_ob_p (kk_63 S), am_ob_p (kk_64 S), rr_63_0 S, rr_63_1 S, rr_64_2 S, rr_64_3 S, rr_64_4 S, rr_64_5 S, rr_2_0 S, rr_2_1 S, rr_2_3 S, rr_2_4 S, rr_2_5 S, rr_2_8 S, rr_2_10 S, rr_2_12 S, rr_2_13 S, rr_2_14 S, am_ix_p (kk_30 S), am_iw_p (kk_30 S), am_ix_p (kk_33 S), am_iw_p (kk_33 S), am_ix_p (kk_34 S), am_iw_p (kk_34 S), am_ix_p (kk_35 S), am_iw_p (kk_35 S), am_ix_p (kk_36 S), am_iw_p (kk_36 S), am_ix_p (kk_37 S), am_iw_p (kk_37 S), am_ix_p (kk_65 S), am_iw_p (kk_65 S), am_ix_p (kk_66 S), am_iw_p (kk_66 S), am_ix_p (kk_67 S), am_iw_p (kk_67 S), am_ix_p (kk_68 S), am_iw_p (kk_68 S), am_gr_p, am_i_ix, Int.toNat_zero, Int.toNat_one, Int.toNat_natCast, Int.reduceToNat, am_lt, am_i_add, am_i_sub, am_i_mul, am_if_f am_i24, e1, e3]
      · rw [t195]
        repeat rw [am_si_f (by omega)]
        rw [am_si_t (by omega)]
        simp (disch := omega) only [am_ob_p (kk_187 S), rr_187_54 S, am_ix_p (kk_229 S), am_gr_p, am_i_ix, Int.toNat_zero, Int.toNat_one, Int.toNat_natCast, Int.reduceToNat, am_lt, am_i_add, am_i_sub, am_i_mul, Int.reduceSub, e2]
    · have e1 := HC.2.2.2.1.1
      have e2 := HM.2.2.2.1.2.1
      have e3 : (am_i (wA W 0 0 0) - am_i (wA W 0 0 0) / am_i 24 * am_i 24) = am_i (wA W 0 0 0 % 24) := am_i_rem (by omega) (by omega) (by omega) (by omega)
      refine Call_same (v := .int (am_i (wA W 0 0 0 % 24))) (iv _) hq HC HM B h0 S ?_ ?_
      · rw [t6]
        repeat rw [am_si_f (by omega)]
        rw [am_si_t (by omega)]
        simp (disch := omega) only [am_ob_p (kk_2 S), am_ob_p (kk_3 S), am_ob_p (kk_63 S), am_ob_p (kk_64 S), rr_63_0 S, rr_63_1 S, rr_64_2 S, rr_64_3 S, rr_64_4 S, rr_64_5 S, rr_2_0 S, rr_2_1 S, rr_2_3 S, rr_2_4 S, rr_2_5 S, rr_2_8 S, rr_2_10 S, rr_2_12 S, rr_2_13 S, rr_2_14 S, am_ix_p (kk_30 S), am_iw_p (kk_30 S), am_ix_p (kk_33 S), am_iw_p (kk_33 S), am_ix_p (kk_34 S), am_iw_p (kk_34 S), am_ix_p (kk_35 S), am_iw_p (kk_35 S), am_ix_p (kk_36 S), am_iw_p (kk_36 S), am_ix_p (kk_37 S), am_iw_p (kk_37 S), am_ix_p (kk_65 S), am_iw_p (kk_65 S), am_ix_p (kk_66 S), am_iw_p (kk_66 S), am_ix_p (kk_67 S), am_iw_p (kk_67 S), am_ix_p (kk_68 S), am_iw_p (kk_68 S), am_gr_p, am_if_f am_i24, e1, e3]
      · rw [t195]
        repeat rw [am_si_f (by omega)]
        rw [am_si_t (by omega)]
        simp (disch := omega) only [am_ob_p (kk_187 S), rr_187_54 S, am_ix_p (kk_229 S), am_gr_p, am_i_ix, Int.toNat_zero, Int.toNat_one, Int.toNat_natCast, Int.reduceToNat, am_lt, am_i_add, am_i_sub, am_i_mul, Int.reduceSub, e2]
    · have e1 := HC.2.2.2.1.2.1
      refine Call_same (v := .int (am_i (bcnt (wA W 1 0 0).toNat))) (iv _) hq HC HM B h0 S ?_ ?_
      · rw [t6]
        repeat rw [am_si_f (by omega)]
        rw [am_si_t (by omega)]
        simp (disch := omega) only [am_ob_p (kk_2 S), am_ob_p (kk_3 S), am_ob_p (kk_63 S), am_ob_p (kk_64 S), rr_63_0 S, rr_63_1 S, rr_64_2 S, rr_64_3 S, rr_64_4 S, rr_64_5 S, rr_2_0 S, rr_2_1 S, rr_2_3 S, rr_2_4 S, rr_2_5 S, rr_2_8 S, rr_2_10 S, rr_2_12 S, rr_2_13 S, rr_2_14 S, am_ix_p (kk_30 S), am_iw_p (kk_30 S), am_ix_p (kk_33 S), am_iw_p (kk_33 S), am_ix_p (kk_34 S), am_iw_p (kk_34 S), am_ix_p (kk_35 S), am_iw_p (kk_35 S), am_ix_p (kk_36 S), am_iw_p (kk_36 S), am_ix_p (kk_37 S), am_iw_p (kk_37 S), am_ix_p (kk_65 S), am_iw_p (kk_65 S), am_ix_p (kk_66 S), am_iw_p (kk_66 S), am_ix_p (kk_67 S), am_iw_p (kk_67 S), am_ix_p (kk_68 S), am_iw_p (kk_68 S), am_gr_p, e1, j_bitCount, am_bI_p]
      · rw [t195]
        repeat rw [am_si_f (by omega)]
        rw [am_si_t (by omega), am_ob_p (kk_187 S), m_pressers S HY HM.2.2.2.1 B1 BA, am_bI_p, m_bits bp.1 bp.2, am_bI_p]
    · refine Call_same (v := .int (am_i (sawAll (wX W) (wA W)))) (iv _) hq HC HM B h0 S ?_ ?_
      · rw [t6]
        repeat rw [am_si_f (by omega)]
        rw [am_si_t (by omega), am_ob_p (kk_2 S), c_sawTogether S hh HX HC.2.2.2.1 B1, am_bI_p]
      · rw [t195]
        repeat rw [am_si_f (by omega)]
        rw [am_si_t (by omega), am_ob_p (kk_187 S), m_hoursAll S HY HM.2.2.2.1 B1, am_bI_p]
    · have e2 := HM.2.2.2.2.1.1
      refine Call_same (v := .int (am_i (wK W).length)) (iv _) hq HC HM B h0 S ?_ ?_
      · rw [t6]
        repeat rw [am_si_f (by omega)]
        rw [am_si_t (by omega), am_ob_p (kk_2 S), rr_2_3 S, am_gr_p, am_ob_p (kk_63 S), rr_63_1 S, am_gr_p, am_ob_p (kk_64 S), c_keptCount S (kk_64 S) HC.2.2.2.2.1 (by omega), am_bI_p]
      · rw [t195]
        repeat rw [am_si_f (by omega)]
        rw [am_si_t (by omega)]
        simp (disch := omega) only [am_ob_p (kk_187 S), rr_187_54 S, am_ix_p (kk_229 S), am_gr_p, am_i_ix, Int.toNat_zero, Int.toNat_one, Int.toNat_natCast, Int.reduceToNat, am_lt, am_i_add, am_i_sub, am_i_mul, e2]
    · have e1 := HC.2.2.2.2.2.2.1.2.2.2.2.2.1
      have e2 := HM.2.2.2.2.2.2.1.2.2.2.2.2.1
      refine Call_same (v := .int (am_i (wZ W 4 0))) (iv _) hq HC HM B h0 S ?_ ?_
      · rw [t6]
        repeat rw [am_si_f (by omega)]
        rw [am_si_t (by omega), am_ob_p (kk_2 S), e1]
      · rw [t195]
        repeat rw [am_si_f (by omega)]
        rw [am_si_t (by omega), am_ob_p (kk_187 S), e2]
    · obtain ⟨o, -, -, e1, -⟩ := HC.2.2.2.2.2.1
      obtain ⟨o2, -, -, e2, -⟩ := HM.2.2.2.2.2.1
      refine Call_same (v := .int (am_i (wP W).length)) (iv _) hq HC HM B h0 S ?_ ?_
      · rw [t6]
        repeat rw [am_si_f (by omega)]
        rw [am_si_t (by omega), am_ob_p (kk_2 S), e1]
      · rw [t195]
        repeat rw [am_si_f (by omega)]
        rw [am_si_t (by omega), am_ob_p (kk_187 S), e2]
  · refine Call_same (v := .int (am_i (-1))) (iv _) hq HC HM B h0 S ?_ ?_
    · rw [t6]
      repeat rw [am_si_f (by omega)]
    · rw [t195]
      repeat rw [am_si_f (by omega)]
