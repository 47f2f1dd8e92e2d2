/-! Calls that only read. -/
theorem is1_ex {X : am_X} {s : Nat} {z : Int} (h : is1 X s z = 1) : ∃ p : Nat, z = p ∧ (p : Int) < X 0 s 0 := by
  unfold is1 at h
  split at h
  · exact ⟨z.toNat, by omega, by omega⟩
  · omega
theorem is1_0 {X : am_X} {s : Nat} {z : Int} (h : ¬ is1 X s z = 1) : is1 X s z = 0 := by
  rcases is1_01 X s z with g | g
  · exact g
  · exact absurd g h
theorem qok_h {q : am_Pq} (h : qok q) : isH q.2.2.1 := by
  obtain ⟨g, -, -⟩ := h
  unfold isH
  omega
theorem int_of (x : Int32) : ∃ z : Int, x = am_i z ∧ -2147483648 ≤ z ∧ z < 2147483648 := ⟨x.toInt, (am_i_of x).symm, Int32.le_toInt x, Int32.toInt_lt x⟩
theorem iv (z : Int32) : (∃ y, Value.int z = .int y) ∨ ∃ y, Value.int z = .long y := Or.inl ⟨z, rfl⟩
theorem lv (z : Int64) : (∃ y, Value.long z = .int y) ∨ ∃ y, Value.long z = .long y := Or.inr ⟨z, rfl⟩
theorem Call_same {L : Nat} {xs : Nat → Int32} {mc mm : Nat} {a : List Value} {M : am_M} {W : am_Wo} {b : Nat} {q : am_Pq} {v : Value} (hv : (∃ z, v = .int z) ∨ ∃ z, v = .long z) (hq : qok q) (HC : cWo q M W b) (HM : mWo M W) (B : wB W) (h0 : ∀ k, am_I M 0 k = xs k) (S : am_Sh L q M)
    (r1 : am_cl mc 599 (.ref 2 :: a) M = some (some v, M)) (r2 : am_cl mm 599 (.ref 187 :: a) M = some (some v, M)) : Call L xs mc mm a M b :=
  Call_of hv hq HC HM B h0 r1 (fr_rfl _ _) hq rfl r2 (fr_rfl _ _) S
theorem call_fault {L : Nat} {xs : Nat → Int32} {M : am_M} {W : am_Wo} {b : Nat} (R : Rel L xs M W b) (x : Int32) : Call L xs 5 157 [.int x] M b := by
  obtain ⟨q, hq, S, HC, HM, B, h0⟩ := R
  obtain ⟨z, rfl, z1, z2⟩ := int_of x
  obtain ⟨k1, k2, k3, k4, -⟩ := HC.2.2.2.2.2.2.1
  obtain ⟨j1, j2, j3, j4, -⟩ := HM.2.2.2.2.2.2.1
  refine Call_same (v := .int (am_i (if z = 0 then wZ W 2 0 else if z = 1 then wZ W 2 1 else -1))) (iv _) hq HC HM B h0 S ?_ ?_
  · rw [t5]
    simp (disch := omega) only [am_ob_p (kk_2 S), am_ob_p (kk_3 S), am_ob_p (kk_63 S), am_ob_p (kk_64 S), rr_63_0 S, rr_63_1 S, rr_64_2 S, rr_64_3 S, rr_64_4 S, rr_64_5 S, rr_2_0 S, rr_2_1 S, rr_2_3 S, rr_2_4 S, rr_2_5 S, rr_2_8 S, rr_2_10 S, rr_2_12 S, rr_2_13 S, rr_2_14 S, am_ix_p (kk_30 S), am_iw_p (kk_30 S), am_ix_p (kk_33 S), am_iw_p (kk_33 S), am_ix_p (kk_34 S), am_iw_p (kk_34 S), am_ix_p (kk_35 S), am_iw_p (kk_35 S), am_ix_p (kk_36 S), am_iw_p (kk_36 S), am_ix_p (kk_37 S), am_iw_p (kk_37 S), am_ix_p (kk_65 S), am_iw_p (kk_65 S), am_ix_p (kk_66 S), am_iw_p (kk_66 S), am_ix_p (kk_67 S), am_iw_p (kk_67 S), am_ix_p (kk_68 S), am_iw_p (kk_68 S), am_gr_p, k3, k4, am_br_ne]
    by_cases g : z = 0
    · rw [if_pos g, if_pos g]
    · rw [if_neg g, if_neg g]
      by_cases g2 : z = 1
      · rw [if_pos g2, if_pos g2]
      · rw [if_neg g2, if_neg g2]
  · rw [t157]
    simp (disch := omega) only [am_ob_p (kk_187 S), am_gr_p, j3, j4, am_br_ne]
    by_cases g : z = 0
    · rw [if_pos g, if_pos g]
    · rw [if_neg g, if_neg g]
      by_cases g2 : z = 1
      · rw [if_pos g2, if_pos g2]
      · rw [if_neg g2, if_neg g2]
theorem call_status {L : Nat} {xs : Nat → Int32} {M : am_M} {W : am_Wo} {b : Nat} (R : Rel L xs M W b) (x : Int32) : Call L xs 36 271 [.int x] M b := by
  obtain ⟨q, hq, S, HC, HM, B, h0⟩ := R
  obtain ⟨z, rfl, z1, z2⟩ := int_of x
  have k9 := HC.2.2.2.2.2.2.1.2.2.2.2.2.2.2.2.1
  have j9 := HM.2.2.2.2.2.2.1.2.2.2.2.2.2.2.2.1
  refine Call_same (v := .int (am_i (if 0 ≤ z ∧ z ≤ 5 then wZ W 7 z.toNat else -1))) (iv _) hq HC HM B h0 S ?_ ?_
  · rw [t36]
    simp (disch := omega) only [am_ob_p (kk_2 S), am_ob_p (kk_3 S), am_ob_p (kk_63 S), am_ob_p (kk_64 S), rr_63_0 S, rr_63_1 S, rr_64_2 S, rr_64_3 S, rr_64_4 S, rr_64_5 S, rr_2_0 S, rr_2_1 S, rr_2_3 S, rr_2_4 S, rr_2_5 S, rr_2_8 S, rr_2_10 S, rr_2_12 S, rr_2_13 S, rr_2_14 S, am_ix_p (kk_30 S), am_iw_p (kk_30 S), am_ix_p (kk_33 S), am_iw_p (kk_33 S), am_ix_p (kk_34 S), am_iw_p (kk_34 S), am_ix_p (kk_35 S), am_iw_p (kk_35 S), am_ix_p (kk_36 S), am_iw_p (kk_36 S), am_ix_p (kk_37 S), am_iw_p (kk_37 S), am_ix_p (kk_65 S), am_iw_p (kk_65 S), am_ix_p (kk_66 S), am_iw_p (kk_66 S), am_ix_p (kk_67 S), am_iw_p (kk_67 S), am_ix_p (kk_68 S), am_iw_p (kk_68 S), am_gr_p, am_i_ix, Int.toNat_zero, Int.toNat_one, Int.toNat_natCast, Int.reduceToNat, am_lt, am_i_add, am_i_sub, am_i_mul, kk_37 S, am_if_t, am_i_nI, am_br_lt]
    by_cases g : z < 0
    · rw [if_pos g, if_neg (by omega)]
    · rw [if_neg g]
      by_cases g2 : z < 6
      · rw [if_pos (by omega), if_pos (by omega)]
        have e := k9 z.toNat (by omega)
        simp (disch := omega) only [am_ob_p (kk_2 S), am_ob_p (kk_3 S), am_ob_p (kk_63 S), am_ob_p (kk_64 S), rr_63_0 S, rr_63_1 S, rr_64_2 S, rr_64_3 S, rr_64_4 S, rr_64_5 S, rr_2_0 S, rr_2_1 S, rr_2_3 S, rr_2_4 S, rr_2_5 S, rr_2_8 S, rr_2_10 S, rr_2_12 S, rr_2_13 S, rr_2_14 S, am_ix_p (kk_30 S), am_iw_p (kk_30 S), am_ix_p (kk_33 S), am_iw_p (kk_33 S), am_ix_p (kk_34 S), am_iw_p (kk_34 S), am_ix_p (kk_35 S), am_iw_p (kk_35 S), am_ix_p (kk_36 S), am_iw_p (kk_36 S), am_ix_p (kk_37 S), am_iw_p (kk_37 S), am_ix_p (kk_65 S), am_iw_p (kk_65 S), am_ix_p (kk_66 S), am_iw_p (kk_66 S), am_ix_p (kk_67 S), am_iw_p (kk_67 S), am_ix_p (kk_68 S), am_iw_p (kk_68 S), am_gr_p, am_i_ix, Int.toNat_zero, Int.toNat_one, Int.toNat_natCast, Int.reduceToNat, am_lt, am_i_add, am_i_sub, am_i_mul, e]
      · rw [if_neg (by omega), if_neg (by omega)]
  · have e01 := isin_01 z 0 5
    rw [t271]
    simp (disch := omega) only [am_i2l, m_isIn, am_bI_p, am_br_eq]
    unfold isin
    by_cases g : 0 ≤ z ∧ z ≤ 5
    · have e := j9 z.toNat (by omega)
      simp only [if_pos g]
      rw [if_neg (by omega)]
      simp (disch := omega) only [am_ob_p (kk_187 S), rr_187_9 S, am_ix_p (kk_189 S), am_gr_p, am_i_ix, Int.toNat_zero, Int.toNat_one, Int.toNat_natCast, Int.reduceToNat, am_lt, am_i_add, am_i_sub, am_i_mul, e]
    · simp only [if_neg g]
      rw [if_pos trivial]
theorem call_octet {L : Nat} {xs : Nat → Int32} {M : am_M} {W : am_Wo} {b : Nat} (R : Rel L xs M W b) (x : Int32) : Call L xs 34 265 [.int x] M b := by
  obtain ⟨q, hq, S, HC, HM, B, h0⟩ := R
  obtain ⟨z, rfl, z1, z2⟩ := int_of x
  obtain ⟨-, -, -, -, -, -, k7, k8, -, -⟩ := HC.2.2.2.2.2.2.1
  obtain ⟨-, -, -, -, -, -, j7, j8, -, -⟩ := HM.2.2.2.2.2.2.1
  have b6 := B.2.2.2.2.2.2.2.2.2.2.1
  refine Call_same (v := .int (am_i (if 0 ≤ z ∧ z < wZ W 6 0 then wZ W 5 z.toNat else -1))) (iv _) hq HC HM B h0 S ?_ ?_
  · rw [t34]
    simp (disch := omega) only [am_ob_p (kk_2 S), am_ob_p (kk_3 S), am_ob_p (kk_63 S), am_ob_p (kk_64 S), rr_63_0 S, rr_63_1 S, rr_64_2 S, rr_64_3 S, rr_64_4 S, rr_64_5 S, rr_2_0 S, rr_2_1 S, rr_2_3 S, rr_2_4 S, rr_2_5 S, rr_2_8 S, rr_2_10 S, rr_2_12 S, rr_2_13 S, rr_2_14 S, am_ix_p (kk_30 S), am_iw_p (kk_30 S), am_ix_p (kk_33 S), am_iw_p (kk_33 S), am_ix_p (kk_34 S), am_iw_p (kk_34 S), am_ix_p (kk_35 S), am_iw_p (kk_35 S), am_ix_p (kk_36 S), am_iw_p (kk_36 S), am_ix_p (kk_37 S), am_iw_p (kk_37 S), am_ix_p (kk_65 S), am_iw_p (kk_65 S), am_ix_p (kk_66 S), am_iw_p (kk_66 S), am_ix_p (kk_67 S), am_iw_p (kk_67 S), am_ix_p (kk_68 S), am_iw_p (kk_68 S), am_gr_p, am_i_ix, Int.toNat_zero, Int.toNat_one, Int.toNat_natCast, Int.reduceToNat, am_lt, am_i_add, am_i_sub, am_i_mul, k8, am_br_lt]
    by_cases g : z < 0
    · rw [if_pos g, if_neg (by omega)]
    · rw [if_neg g]
      by_cases g2 : z < wZ W 6 0
      · have e := k7 z.toNat (by omega)
        rw [if_pos g2, if_pos (by omega)]
        simp (disch := omega) only [am_ob_p (kk_2 S), am_ob_p (kk_3 S), am_ob_p (kk_63 S), am_ob_p (kk_64 S), rr_63_0 S, rr_63_1 S, rr_64_2 S, rr_64_3 S, rr_64_4 S, rr_64_5 S, rr_2_0 S, rr_2_1 S, rr_2_3 S, rr_2_4 S, rr_2_5 S, rr_2_8 S, rr_2_10 S, rr_2_12 S, rr_2_13 S, rr_2_14 S, am_ix_p (kk_30 S), am_iw_p (kk_30 S), am_ix_p (kk_33 S), am_iw_p (kk_33 S), am_ix_p (kk_34 S), am_iw_p (kk_34 S), am_ix_p (kk_35 S), am_iw_p (kk_35 S), am_ix_p (kk_36 S), am_iw_p (kk_36 S), am_ix_p (kk_37 S), am_iw_p (kk_37 S), am_ix_p (kk_65 S), am_iw_p (kk_65 S), am_ix_p (kk_66 S), am_iw_p (kk_66 S), am_ix_p (kk_67 S), am_iw_p (kk_67 S), am_ix_p (kk_68 S), am_iw_p (kk_68 S), am_gr_p, am_i_ix, Int.toNat_zero, Int.toNat_one, Int.toNat_natCast, Int.reduceToNat, am_lt, am_i_add, am_i_sub, am_i_mul, e]
      · rw [if_neg g2, if_neg (by omega)]
  · rw [t265]
    simp (disch := omega) only [am_ob_p (kk_187 S), rr_187_101 S, am_gr_p, am_i_ix, Int.toNat_zero, Int.toNat_one, Int.toNat_natCast, Int.reduceToNat, am_lt, am_i_add, am_i_sub, am_i_mul, j8, am_br_lt, am_br_ge]
    by_cases g : z < 0
    · rw [if_pos g, if_neg (by omega)]
    · rw [if_neg g]
      by_cases g2 : z < wZ W 6 0
      · have e := j7 z.toNat (by omega)
        rw [if_neg (by omega), if_pos (by omega)]
        simp (disch := omega) only [am_ix_p (kk_260 S), am_i_ix, e]
      · rw [if_pos (by omega), if_neg (by omega)]
theorem call_film {L : Nat} {xs : Nat → Int32} {M : am_M} {W : am_Wo} {b : Nat} (R : Rel L xs M W b) (x y : Int32) : Call L xs 8 197 [.int x, .int y] M b := by
  obtain ⟨q, hq, S, HC, HM, B, h0⟩ := R
  obtain ⟨z, rfl, z1, z2⟩ := int_of x
  obtain ⟨w, rfl, w1, w2⟩ := int_of y
  have hh := qok_h hq
  have B1 := B.1
  have HX := HC.1
  have HY := HM.1
  have hF8 := hB_F B1
  have hK6 := hB_K B1
  by_cases g : is1 (wX W) 1 z = 1
  · obtain ⟨f, rfl, hf⟩ := is1_ex g
    have hfF : f < nF (wX W) := by omega
    have e2 := HX.2.1 f hfF
    have b2 := hB_pt B1 hfF
    by_cases g0 : w = 0
    · subst g0
      refine Call_same (v := .int (am_i (wX W 2 f 0))) (iv _) hq HC HM B h0 S ?_ ?_
      · rw [t8, am_ob_p (kk_2 S), show (am_i 1) = am_i ((1 : Nat) : Int) from rfl, c_isOne S hh HX B1 (by decide) z1 z2, am_bI_p, g]
        simp (disch := omega) only [am_br_ne]
        rw [if_neg (by omega), if_pos trivial]
        simp (disch := omega) only [am_ob_p (kk_2 S), am_ob_p (kk_3 S), am_ob_p (kk_63 S), am_ob_p (kk_64 S), rr_63_0 S, rr_63_1 S, rr_64_2 S, rr_64_3 S, rr_64_4 S, rr_64_5 S, rr_2_0 S, rr_2_1 S, rr_2_3 S, rr_2_4 S, rr_2_5 S, rr_2_8 S, rr_2_10 S, rr_2_12 S, rr_2_13 S, rr_2_14 S, am_ix_p (kk_30 S), am_iw_p (kk_30 S), am_ix_p (kk_33 S), am_iw_p (kk_33 S), am_ix_p (kk_34 S), am_iw_p (kk_34 S), am_ix_p (kk_35 S), am_iw_p (kk_35 S), am_ix_p (kk_36 S), am_iw_p (kk_36 S), am_ix_p (kk_37 S), am_iw_p (kk_37 S), am_ix_p (kk_65 S), am_iw_p (kk_65 S), am_ix_p (kk_66 S), am_iw_p (kk_66 S), am_ix_p (kk_67 S), am_iw_p (kk_67 S), am_ix_p (kk_68 S), am_iw_p (kk_68 S), am_ob_p (H_k0 S hh), am_ix_p (H_k1 S hh), am_iw_p (H_k1 S hh), am_ix_p (H_k6 S hh), am_iw_p (H_k6 S hh), am_ix_p (H_k16 S hh), am_iw_p (H_k16 S hh), am_ix_p (H_k17 S hh), am_iw_p (H_k17 S hh), am_ix_p (H_k24 S hh), am_iw_p (H_k24 S hh), H_r0_0 S hh, H_r0_1 S hh, H_r0_2 S hh, H_r0_3 S hh, H_r0_4 S hh, H_r0_5 S hh, H_r0_6 S hh, H_r0_15 S hh, H_r2 S hh, H_r7 S hh, H_r18 S hh, am_iq_p (H_k2 S hh), am_iq_p (H_k7 S hh), am_iq_p (H_k18 S hh), am_gr_p, am_i_ix, Int.toNat_zero, Int.toNat_one, Int.toNat_natCast, Int.reduceToNat, am_lt, am_i_add, am_i_sub, am_i_mul, e2]
      · rw [t197, am_ob_p (kk_187 S), m_isFilm S HY B1 z1 z2, am_bI_p, g]
        simp (disch := omega) only [am_br_ne, am_br_lt]
        rw [if_neg (by omega), if_pos (by omega), if_pos trivial, am_ob_p (kk_187 S), m_partsOf S HY B1 hfF, am_bI_p]
    · by_cases g1 : w < 10
      · refine Call_same (v := .int (am_i (-1))) (iv _) hq HC HM B h0 S ?_ ?_
        · rw [t8, am_ob_p (kk_2 S), show (am_i 1) = am_i ((1 : Nat) : Int) from rfl, c_isOne S hh HX B1 (by decide) z1 z2, am_bI_p, g]
          simp (disch := omega) only [am_br_ne, am_br_lt]
          rw [if_neg (by omega), if_neg g0, if_pos g1]
        · rw [t197, am_ob_p (kk_187 S), m_isFilm S HY B1 z1 z2, am_bI_p, g]
          simp (disch := omega) only [am_br_ne, am_br_lt]
          rw [if_neg (by omega), if_pos g1, if_neg g0]
      · by_cases g2 : is1 (wX W) 0 (w - 10) = 1
        · obtain ⟨k, hk, hk1⟩ := is1_ex g2
          have hk6 : k < 6 := by omega
          have e3 := HX.2.2.1 f hfF k hk6
          refine Call_same (v := .int (am_i (wX W 3 f k))) (iv _) hq HC HM B h0 S ?_ ?_
          · rw [t8, am_ob_p (kk_2 S), show (am_i 1) = am_i ((1 : Nat) : Int) from rfl, c_isOne S hh HX B1 (by decide) z1 z2, am_bI_p, g]
            simp (disch := omega) only [am_br_ne, am_br_lt]
            rw [if_neg (by omega), if_neg g0, if_neg g1, am_ob_p (kk_2 S), am_i_sub, show (am_i 0) = am_i ((0 : Nat) : Int) from rfl, c_isOne S hh HX B1 (by decide) (by omega) (by omega), am_bI_p, g2]
            simp (disch := omega) only [am_br_eq]
            rw [if_neg (by omega)]
            simp (disch := omega) only [am_ob_p (kk_2 S), am_ob_p (kk_3 S), am_ob_p (kk_63 S), am_ob_p (kk_64 S), rr_63_0 S, rr_63_1 S, rr_64_2 S, rr_64_3 S, rr_64_4 S, rr_64_5 S, rr_2_0 S, rr_2_1 S, rr_2_3 S, rr_2_4 S, rr_2_5 S, rr_2_8 S, rr_2_10 S, rr_2_12 S, rr_2_13 S, rr_2_14 S, am_ix_p (kk_30 S), am_iw_p (kk_30 S), am_ix_p (kk_33 S), am_iw_p (kk_33 S), am_ix_p (kk_34 S), am_iw_p (kk_34 S), am_ix_p (kk_35 S), am_iw_p (kk_35 S), am_ix_p (kk_36 S), am_iw_p (kk_36 S), am_ix_p (kk_37 S), am_iw_p (kk_37 S), am_ix_p (kk_65 S), am_iw_p (kk_65 S), am_ix_p (kk_66 S), am_iw_p (kk_66 S), am_ix_p (kk_67 S), am_iw_p (kk_67 S), am_ix_p (kk_68 S), am_iw_p (kk_68 S), am_ob_p (H_k0 S hh), am_ix_p (H_k1 S hh), am_iw_p (H_k1 S hh), am_ix_p (H_k6 S hh), am_iw_p (H_k6 S hh), am_ix_p (H_k16 S hh), am_iw_p (H_k16 S hh), am_ix_p (H_k17 S hh), am_iw_p (H_k17 S hh), am_ix_p (H_k24 S hh), am_iw_p (H_k24 S hh), H_r0_0 S hh, H_r0_1 S hh, H_r0_2 S hh, H_r0_3 S hh, H_r0_4 S hh, H_r0_5 S hh, H_r0_6 S hh, H_r0_15 S hh, H_r2 S hh, H_r7 S hh, H_r18 S hh, am_iq_p (H_k2 S hh), am_iq_p (H_k7 S hh), am_iq_p (H_k18 S hh), H_r7 S hh, am_ix_p (H_q7 S hh (show f < 8 by omega)), am_gr_p, am_i_ix, Int.toNat_zero, Int.toNat_one, Int.toNat_natCast, Int.reduceToNat, am_lt, am_i_add, am_i_sub, am_i_mul, hk, e3]
          · rw [t197, am_ob_p (kk_187 S), m_isFilm S HY B1 z1 z2, am_bI_p, g]
            simp (disch := omega) only [am_br_ne, am_br_lt]
            rw [if_neg (by omega), if_neg g1, am_ob_p (kk_187 S), am_i_sub, m_isKind S HY B1 (by omega) (by omega), am_bI_p, g2]
            simp (disch := omega) only [am_br_eq]
            rw [if_neg (by omega), am_ob_p (kk_187 S), hk, m_weightOf S HY B1 hfF hk6, am_bI_p]
        · have g3 := is1_0 g2
          refine Call_same (v := .int (am_i (-1))) (iv _) hq HC HM B h0 S ?_ ?_
          · rw [t8, am_ob_p (kk_2 S), show (am_i 1) = am_i ((1 : Nat) : Int) from rfl, c_isOne S hh HX B1 (by decide) z1 z2, am_bI_p, g]
            simp (disch := omega) only [am_br_ne, am_br_lt]
            rw [if_neg (by omega), if_neg g0, if_neg g1, am_ob_p (kk_2 S), am_i_sub, show (am_i 0) = am_i ((0 : Nat) : Int) from rfl, c_isOne S hh HX B1 (by decide) (by omega) (by omega), am_bI_p, g3]
            simp (disch := omega) only [am_br_eq]
            rw [if_pos (by rfl)]
          · rw [t197, am_ob_p (kk_187 S), m_isFilm S HY B1 z1 z2, am_bI_p, g]
            simp (disch := omega) only [am_br_ne, am_br_lt]
            rw [if_neg (by omega), if_neg g1, am_ob_p (kk_187 S), am_i_sub, m_isKind S HY B1 (by omega) (by omega), am_bI_p, g3]
            simp (disch := omega) only [am_br_eq, am_br_ne]
            rw [if_pos trivial, if_neg g0]
  · have g' := is1_0 g
    refine Call_same (v := .int (am_i (-1))) (iv _) hq HC HM B h0 S ?_ ?_
    · rw [t8, am_ob_p (kk_2 S), show (am_i 1) = am_i ((1 : Nat) : Int) from rfl, c_isOne S hh HX B1 (by decide) z1 z2, am_bI_p, g']
      simp (disch := omega) only [am_br_ne]
      rw [if_pos trivial]
    · rw [t197, am_ob_p (kk_187 S), m_isFilm S HY B1 z1 z2, am_bI_p, g']
      simp (disch := omega) only [am_br_ne]
      rw [if_pos trivial]
