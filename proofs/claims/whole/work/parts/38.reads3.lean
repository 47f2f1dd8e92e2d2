/-! What is kept; a person. -/
theorem kB_get {K : List Int} (h : kB K) {k : Nat} (hk : k < K.length) : 0 ≤ K.getD k 0 ∧ K.getD k 0 < 3072000 := by
  rw [List.getD_eq_getElem?_getD, List.getElem?_eq_getElem hk]
  exact h _ (List.getElem_mem hk)
theorem c_keptRow {L : Nat} {q : am_Pq} {M : am_M} (S : am_Sh L q M) {K : List Int} {b : Nat} (HK : cK M 64 K b) (hb : b < 2000000000) {k : Nat} (hk : k < K.length) (d : Nat) : am_cl 69 (d + 2) [.ref 64, .int (am_i k)] M = some (some (.int (am_i (K.getD k 0))), M) := by
  have r1 := c_keptCount S (kk_64 S) HK hb d
  obtain ⟨e, k1, k2, k3, k4⟩ := HK
  have hl : K.length ≤ e ∧ K.length ≤ 40 := by rw [k3]; split <;> omega
  have e1 : (am_i ((e : Int) - K.length + k) - am_i ((e : Int) - K.length + k) / am_i 40 * am_i 40) = am_i (((e : Int) - K.length + k) % 40) := am_i_rem (by omega) (by omega) (by omega) (by omega)
  have e2 : (((e : Int) - K.length + k) % 40).toNat = (e - K.length + k) % 40 := by omega
  have e3 := k4 k hk
  rw [t69, am_ob_p (kk_64 S), rr_64_5 S, am_gr_p, am_ob_p (kk_64 S), am_ob_p (kk_64 S), r1, am_bI_p, am_if_f am_i40, k2]
  simp (disch := omega) only [am_lt, am_i_sub, am_i_add] at e1 ⊢
  rw [e1]
  simp (disch := omega) only [am_ix_p (kk_68 S), am_i_ix, e2, e3]
theorem call_kept {L : Nat} {xs : Nat → Int32} {M : am_M} {W : am_Wo} {b : Nat} (R : Rel L xs M W b) (hb : b < 1000000000) (x y : Int32) : Call L xs 14 203 [.int x, .int y] M b := by
  obtain ⟨q, hq, S, HC, HM, B, h0⟩ := R
  obtain ⟨z, rfl, z1, z2⟩ := int_of x
  obtain ⟨w, rfl, w1, w2⟩ := int_of y
  have HK := HC.2.2.2.2.1
  obtain ⟨j1, j2, j3⟩ := HM.2.2.2.2.1
  have r1 := c_keptCount S (kk_64 S) HK (by omega) 597
  have a128 : ¬ (am_i 128 = 0) := by decide
  have a8 : ¬ (am_i 8 = 0) := by decide
  have a16 : ¬ (am_i 16 = 0) := by decide
  by_cases g : 0 ≤ z ∧ z < (wK W).length
  · obtain ⟨k, rfl⟩ : ∃ k : Nat, z = k := ⟨z.toNat, by omega⟩
    have hk : k < (wK W).length := by omega
    have bk := kB_get B.2.2.2.2.1 hk
    have r2 := c_keptRow S HK (by omega) hk 596
    obtain ⟨i1, i2, i3, i4⟩ := j3 k hk
    have hi : isin (k : Int) 0 (((wK W).length : Int) - 1) = 1 := if_pos (by omega)
    -- both, up to what is asked
    have go1 : ∀ v : Value, (am_si 0 (am_i w) (am_if ((am_i 24) = 0) none (some (some (.int ((am_i ((wK W).getD k 0) / (am_i 128)) / (am_i 24))), M)))
        (am_si 1 (am_i w) (am_if ((am_i 24) = 0) none (some (some (.int ((am_i ((wK W).getD k 0) / (am_i 128)) - (am_i ((wK W).getD k 0) / (am_i 128)) / (am_i 24) * (am_i 24))), M)))
        (am_si 2 (am_i w) (am_if ((am_i 8) = 0) none (am_if ((am_i 16) = 0) none (some (some (.int ((am_i ((wK W).getD k 0) / (am_i 8)) - (am_i ((wK W).getD k 0) / (am_i 8)) / (am_i 16) * (am_i 16))), M))))
        (am_si 3 (am_i w) (am_if ((am_i 8) = 0) none (some (some (.int (am_i ((wK W).getD k 0) - am_i ((wK W).getD k 0) / (am_i 8) * (am_i 8))), M)))
        (some (some (.int (am_i (-1))), M)))))) = some (some v, M) → am_cl 14 599 [.ref 2, .int (am_i (k : Int)), .int (am_i w)] M = some (some v, M) := by
      intro v hv
      rw [t14, am_br_lt (by omega) (by omega) (by omega) (by omega), if_neg (by omega), am_ob_p (kk_2 S), rr_2_3 S, am_gr_p, am_ob_p (kk_63 S), rr_63_1 S, am_gr_p, am_ob_p (kk_64 S), r1, am_bI_p, am_br_lt (by omega) (by omega) (by omega) (by omega), if_pos (by omega), am_ob_p (kk_2 S), rr_2_3 S, am_gr_p, am_ob_p (kk_63 S), rr_63_1 S, am_gr_p, am_ob_p (kk_64 S), r2, am_bI_p, am_if_f a128]
      exact hv
    have d128 : am_i ((wK W).getD k 0) / am_i 128 = am_i ((wK W).getD k 0 / 128) := am_i_div (by omega) (by omega) (by omega) (by omega)
    have d8 : am_i ((wK W).getD k 0) / am_i 8 = am_i ((wK W).getD k 0 / 8) := am_i_div (by omega) (by omega) (by omega) (by omega)
    have d24 : am_i ((wK W).getD k 0 / 128) / am_i 24 = am_i ((wK W).getD k 0 / 128 / 24) := am_i_div (by omega) (by omega) (by omega) (by omega)
    have m24 : (am_i ((wK W).getD k 0 / 128) - am_i ((wK W).getD k 0 / 128) / am_i 24 * am_i 24) = am_i ((wK W).getD k 0 / 128 % 24) := am_i_rem (by omega) (by omega) (by omega) (by omega)
    have m16 : (am_i ((wK W).getD k 0 / 8) - am_i ((wK W).getD k 0 / 8) / am_i 16 * am_i 16) = am_i ((wK W).getD k 0 / 8 % 16) := am_i_rem (by omega) (by omega) (by omega) (by omega)
    have m8 : (am_i ((wK W).getD k 0) - am_i ((wK W).getD k 0) / am_i 8 * am_i 8) = am_i ((wK W).getD k 0 % 8) := am_i_rem (by omega) (by omega) (by omega) (by omega)
    have rm : am_cl 203 599 [.ref 187, .int (am_i (k : Int)), .int (am_i w)] M = (if isin w 0 3 = 0 then some (some (.int (am_i (-1))), M) else am_ix M 229 2 (am_i (97 + 4 * (k : Int) + w)) (some (some (.int (am_I M 229 (am_i (97 + 4 * (k : Int) + w)).toNatClampNeg)), M)) none) := by
      have hi3 := isin_01 w 0 3
      rw [t203]
      simp (disch := omega) only [am_ob_p (kk_187 S), rr_187_54 S, am_gr_p, am_ix_p (kk_229 S), am_i_ix, Int.reduceToNat, j1, am_i_sub, am_i2l, m_isIn, am_bI_p, hi, am_br_eq]
      rw [if_neg (by omega)]
      simp only [am_i_mul, am_i_add]
    by_cases g2 : 0 ≤ w ∧ w ≤ 3
    · have hi3 : isin w 0 3 = 1 := if_pos g2
      have hw : w = 0 ∨ w = 1 ∨ w = 2 ∨ w = 3 := by omega
      rcases hw with rfl | rfl | rfl | rfl
      · have u : (97 + 4 * (k : Int) + 0).toNat = 97 + 4 * k := by omega
        refine Call_same (v := .int (am_i ((wK W).getD k 0 / 128 / 24))) (iv _) hq HC HM B h0 S (go1 _ ?_) ?_
        · rw [am_si_t (by omega), am_if_f am_i24, d128, d24]
        · rw [rm, hi3, if_neg (by omega)]
          simp (disch := omega) only [am_ix_p (kk_229 S), am_i_ix, u, i1]
      · have u : (97 + 4 * (k : Int) + 1).toNat = 98 + 4 * k := by omega
        refine Call_same (v := .int (am_i ((wK W).getD k 0 / 128 % 24))) (iv _) hq HC HM B h0 S (go1 _ ?_) ?_
        · rw [am_si_f (by omega), am_si_t (by omega), am_if_f am_i24, d128, m24]
        · rw [rm, hi3, if_neg (by omega)]
          simp (disch := omega) only [am_ix_p (kk_229 S), am_i_ix, u, i2]
      · have u : (97 + 4 * (k : Int) + 2).toNat = 99 + 4 * k := by omega
        refine Call_same (v := .int (am_i ((wK W).getD k 0 / 8 % 16))) (iv _) hq HC HM B h0 S (go1 _ ?_) ?_
        · rw [am_si_f (by omega), am_si_f (by omega), am_si_t (by omega), am_if_f a8, am_if_f a16, d8, m16]
        · rw [rm, hi3, if_neg (by omega)]
          simp (disch := omega) only [am_ix_p (kk_229 S), am_i_ix, u, i3]
      · have u : (97 + 4 * (k : Int) + 3).toNat = 100 + 4 * k := by omega
        refine Call_same (v := .int (am_i ((wK W).getD k 0 % 8))) (iv _) hq HC HM B h0 S (go1 _ ?_) ?_
        · rw [am_si_f (by omega), am_si_f (by omega), am_si_f (by omega), am_si_t (by omega), am_if_f a8, m8]
        · rw [rm, hi3, if_neg (by omega)]
          simp (disch := omega) only [am_ix_p (kk_229 S), am_i_ix, u, i4]
    · have hi3 : isin w 0 3 = 0 := if_neg g2
      refine Call_same (v := .int (am_i (-1))) (iv _) hq HC HM B h0 S (go1 _ ?_) ?_
      · rw [am_si_f (by omega), am_si_f (by omega), am_si_f (by omega), am_si_f (by omega)]
      · rw [rm, hi3, if_pos rfl]
  · have hi : isin z 0 (((wK W).length : Int) - 1) = 0 := if_neg (by omega)
    refine Call_same (v := .int (am_i (-1))) (iv _) hq HC HM B h0 S ?_ ?_
    · rw [t14, am_br_lt (by omega) (by omega) (by omega) (by omega)]
      by_cases g2 : z < 0
      · rw [if_pos g2]
      · rw [if_neg g2, am_ob_p (kk_2 S), rr_2_3 S, am_gr_p, am_ob_p (kk_63 S), rr_63_1 S, am_gr_p, am_ob_p (kk_64 S), r1, am_bI_p, am_br_lt (by omega) (by omega) (by omega) (by omega), if_neg (by omega)]
    · rw [t203]
      simp (disch := omega) only [am_ob_p (kk_187 S), rr_187_54 S, am_gr_p, am_ix_p (kk_229 S), am_i_ix, Int.reduceToNat, j1, am_i_sub, am_i2l, m_isIn, am_bI_p, hi, am_br_eq]
      rw [if_pos trivial]
theorem call_person {L : Nat} {xs : Nat → Int32} {M : am_M} {W : am_Wo} {b : Nat} (R : Rel L xs M W b) (x y : Int32) : Call L xs 9 198 [.int x, .int y] M b := by
  obtain ⟨q, hq, S, HC, HM, B, h0⟩ := R
  obtain ⟨z, rfl, z1, z2⟩ := int_of x
  obtain ⟨w, rfl, w1, w2⟩ := int_of y
  have hh := qok_h hq
  have B1 := B.1
  have BA := B.2.2.2.1
  have HX := HC.1
  have HY := HM.1
  have hP5 := hB_P B1
  have hK6 := hB_K B1
  have b0 := is1_01 (wX W) 2 z
  have r1 := c_isP S hh HX B1 z1 z2 598
  have r2 := m_isPerson S HY B1 z1 z2 597
  by_cases g : is1 (wX W) 2 z = 1
  · obtain ⟨p, rfl, hp⟩ := is1_ex g
    have hpP : p < nP (wX W) := by omega
    have go2 : w < 10 → am_cl 198 599 [.ref 187, .int (am_i (p : Int)), .int (am_i w)] M = am_ev 198 599 37 [.ref 187, .int (am_i (p : Int)), .int (am_i w)] [] M := by
      intro hw
      rw [t198, am_ob_p (kk_187 S), r2, am_bI_p, am_br_ne (by omega) (by omega) (by omega) (by omega), if_p1 g, am_br_lt (by omega) (by omega) (by omega) (by omega), if_pos hw]
    have e4 := HX.2.2.2.1 p hpP
    have e5 := HX.2.2.2.2.1 p hpP
    have f4 := HY.2.2.2.1 p hpP
    have f5 := HY.2.2.2.2.1 p hpP
    by_cases c0 : w = 0
    · subst c0
      have u : (10 + 2 * (p : Int) + 0).toNat = 10 + 2 * p := by omega
      refine Call_same (v := .int (am_i (wX W 4 p 0))) (iv _) hq HC HM B h0 S ?_ (Eq.trans (go2 (by omega)) ?_)
      · rw [t9, am_ob_p (kk_2 S), r1, am_bI_p, am_br_ne (by omega) (by omega) (by omega) (by omega), if_p1 g]
        rw [am_si_t (by omega)]
        simp (disch := omega) only [am_ob_p (kk_2 S), am_ob_p (kk_3 S), am_ob_p (kk_63 S), am_ob_p (kk_64 S), rr_63_0 S, rr_63_1 S, rr_64_2 S, rr_64_3 S, rr_64_4 S, rr_64_5 S, rr_2_0 S, rr_2_1 S, rr_2_3 S, rr_2_4 S, rr_2_5 S, rr_2_8 S, rr_2_10 S, rr_2_12 S, rr_2_13 S, rr_2_14 S, am_ix_p (kk_30 S), am_iw_p (kk_30 S), am_ix_p (kk_33 S), am_iw_p (kk_33 S), am_ix_p (kk_34 S), am_iw_p (kk_34 S), am_ix_p (kk_35 S), am_iw_p (kk_35 S), am_ix_p (kk_36 S), am_iw_p (kk_36 S), am_ix_p (kk_37 S), am_iw_p (kk_37 S), am_ix_p (kk_65 S), am_iw_p (kk_65 S), am_ix_p (kk_66 S), am_iw_p (kk_66 S), am_ix_p (kk_67 S), am_iw_p (kk_67 S), am_ix_p (kk_68 S), am_iw_p (kk_68 S), am_ob_p (H_k0 S hh), am_ix_p (H_k1 S hh), am_iw_p (H_k1 S hh), am_ix_p (H_k6 S hh), am_iw_p (H_k6 S hh), am_ix_p (H_k16 S hh), am_iw_p (H_k16 S hh), am_ix_p (H_k17 S hh), am_iw_p (H_k17 S hh), am_ix_p (H_k24 S hh), am_iw_p (H_k24 S hh), H_r0_0 S hh, H_r0_1 S hh, H_r0_2 S hh, H_r0_3 S hh, H_r0_4 S hh, H_r0_5 S hh, H_r0_6 S hh, H_r0_15 S hh, H_r2 S hh, H_r7 S hh, H_r18 S hh, am_iq_p (H_k2 S hh), am_iq_p (H_k7 S hh), am_iq_p (H_k18 S hh), am_gr_p, am_i_ix, Int.toNat_zero, Int.toNat_one, Int.toNat_natCast, Int.reduceToNat, am_lt, am_i_add, am_i_sub, am_i_mul, e4]
      · rw [t198_37, am_si_t (by omega)]
        simp (disch := omega) only [am_ob_p (kk_187 S), rr_187_44 S, am_ix_p (kk_223 S), am_gr_p, am_i_ix, Int.toNat_zero, Int.toNat_one, Int.toNat_natCast, Int.reduceToNat, am_lt, am_i_add, am_i_sub, am_i_mul, u, f4]
    · by_cases c1 : w = 1
      · subst c1
        have u : (10 + 2 * (p : Int) + 1).toNat = 11 + 2 * p := by omega
        refine Call_same (v := .int (am_i (wX W 5 p 0))) (iv _) hq HC HM B h0 S ?_ (Eq.trans (go2 (by omega)) ?_)
        · rw [t9, am_ob_p (kk_2 S), r1, am_bI_p, am_br_ne (by omega) (by omega) (by omega) (by omega), if_p1 g]
          rw [am_si_f (by omega), am_si_t (by omega)]
          simp (disch := omega) only [am_ob_p (kk_2 S), am_ob_p (kk_3 S), am_ob_p (kk_63 S), am_ob_p (kk_64 S), rr_63_0 S, rr_63_1 S, rr_64_2 S, rr_64_3 S, rr_64_4 S, rr_64_5 S, rr_2_0 S, rr_2_1 S, rr_2_3 S, rr_2_4 S, rr_2_5 S, rr_2_8 S, rr_2_10 S, rr_2_12 S, rr_2_13 S, rr_2_14 S, am_ix_p (kk_30 S), am_iw_p (kk_30 S), am_ix_p (kk_33 S), am_iw_p (kk_33 S), am_ix_p (kk_34 S), am_iw_p (kk_34 S), am_ix_p (kk_35 S), am_iw_p (kk_35 S), am_ix_p (kk_36 S), am_iw_p (kk_36 S), am_ix_p (kk_37 S), am_iw_p (kk_37 S), am_ix_p (kk_65 S), am_iw_p (kk_65 S), am_ix_p (kk_66 S), am_iw_p (kk_66 S), am_ix_p (kk_67 S), am_iw_p (kk_67 S), am_ix_p (kk_68 S), am_iw_p (kk_68 S), am_ob_p (H_k0 S hh), am_ix_p (H_k1 S hh), am_iw_p (H_k1 S hh), am_ix_p (H_k6 S hh), am_iw_p (H_k6 S hh), am_ix_p (H_k16 S hh), am_iw_p (H_k16 S hh), am_ix_p (H_k17 S hh), am_iw_p (H_k17 S hh), am_ix_p (H_k24 S hh), am_iw_p (H_k24 S hh), H_r0_0 S hh, H_r0_1 S hh, H_r0_2 S hh, H_r0_3 S hh, H_r0_4 S hh, H_r0_5 S hh, H_r0_6 S hh, H_r0_15 S hh, H_r2 S hh, H_r7 S hh, H_r18 S hh, am_iq_p (H_k2 S hh), am_iq_p (H_k7 S hh), am_iq_p (H_k18 S hh), am_gr_p, am_i_ix, Int.toNat_zero, Int.toNat_one, Int.toNat_natCast, Int.reduceToNat, am_lt, am_i_add, am_i_sub, am_i_mul, e5]
        · rw [t198_37, am_si_f (by omega), am_si_t (by omega)]
          simp (disch := omega) only [am_ob_p (kk_187 S), rr_187_44 S, am_ix_p (kk_223 S), am_gr_p, am_i_ix, Int.toNat_zero, Int.toNat_one, Int.toNat_natCast, Int.reduceToNat, am_lt, am_i_add, am_i_sub, am_i_mul, u, f5]
      · by_cases c2 : w = 2
        · subst c2
          have eA := HC.2.2.2.1.2.1
          have bp := aB_p5 B1 BA
          have eb := bit_p bp.1 bp.2 (show p < 5 by omega)
          have hpr : wA W 1 0 0 / ((2 ^ p : Nat) : Int) % 2 = prs (wA W) p := rfl
          have h01 := prs_01 (wA W) p
          refine Call_same (v := .int (am_i (prs (wA W) p))) (iv _) hq HC HM B h0 S ?_ (Eq.trans (go2 (by omega)) ?_)
          · rw [t9, am_ob_p (kk_2 S), r1, am_bI_p, am_br_ne (by omega) (by omega) (by omega) (by omega), if_p1 g]
            rw [am_si_f (by omega), am_si_f (by omega), am_si_t (by omega)]
            simp (disch := omega) only [am_ob_p (kk_2 S), am_ob_p (kk_3 S), am_ob_p (kk_63 S), am_ob_p (kk_64 S), rr_63_0 S, rr_63_1 S, rr_64_2 S, rr_64_3 S, rr_64_4 S, rr_64_5 S, rr_2_0 S, rr_2_1 S, rr_2_3 S, rr_2_4 S, rr_2_5 S, rr_2_8 S, rr_2_10 S, rr_2_12 S, rr_2_13 S, rr_2_14 S, am_ix_p (kk_30 S), am_iw_p (kk_30 S), am_ix_p (kk_33 S), am_iw_p (kk_33 S), am_ix_p (kk_34 S), am_iw_p (kk_34 S), am_ix_p (kk_35 S), am_iw_p (kk_35 S), am_ix_p (kk_36 S), am_iw_p (kk_36 S), am_ix_p (kk_37 S), am_iw_p (kk_37 S), am_ix_p (kk_65 S), am_iw_p (kk_65 S), am_ix_p (kk_66 S), am_iw_p (kk_66 S), am_ix_p (kk_67 S), am_iw_p (kk_67 S), am_ix_p (kk_68 S), am_iw_p (kk_68 S), am_gr_p, eA, eb, hpr]
          · rw [t198_37, am_si_f (by omega), am_si_f (by omega), am_si_t (by omega), am_ob_p (kk_187 S), m_doesPress S HM.2.2.2.1 (show p < 5 by omega), am_bI_p, am_br_eq (by omega) (by omega) (by omega) (by omega)]
            rcases h01 with h | h
            · rw [if_p0 h, h]
            · rw [if_p1 h, h]
        · by_cases c3 : w = 3
          · subst c3
            have e6 := HC.2.2.2.1.2.2.2.2 p (by omega)
            refine Call_same (v := .int (am_i (wA W 4 p 0))) (iv _) hq HC HM B h0 S ?_ (Eq.trans (go2 (by omega)) ?_)
            · rw [t9, am_ob_p (kk_2 S), r1, am_bI_p, am_br_ne (by omega) (by omega) (by omega) (by omega), if_p1 g]
              rw [am_si_f (by omega), am_si_f (by omega), am_si_f (by omega), am_si_t (by omega)]
              simp (disch := omega) only [am_ob_p (kk_2 S), am_ob_p (kk_3 S), am_ob_p (kk_63 S), am_ob_p (kk_64 S), rr_63_0 S, rr_63_1 S, rr_64_2 S, rr_64_3 S, rr_64_4 S, rr_64_5 S, rr_2_0 S, rr_2_1 S, rr_2_3 S, rr_2_4 S, rr_2_5 S, rr_2_8 S, rr_2_10 S, rr_2_12 S, rr_2_13 S, rr_2_14 S, am_ix_p (kk_30 S), am_iw_p (kk_30 S), am_ix_p (kk_33 S), am_iw_p (kk_33 S), am_ix_p (kk_34 S), am_iw_p (kk_34 S), am_ix_p (kk_35 S), am_iw_p (kk_35 S), am_ix_p (kk_36 S), am_iw_p (kk_36 S), am_ix_p (kk_37 S), am_iw_p (kk_37 S), am_ix_p (kk_65 S), am_iw_p (kk_65 S), am_ix_p (kk_66 S), am_iw_p (kk_66 S), am_ix_p (kk_67 S), am_iw_p (kk_67 S), am_ix_p (kk_68 S), am_iw_p (kk_68 S), am_gr_p, am_i_ix, Int.toNat_zero, Int.toNat_one, Int.toNat_natCast, Int.reduceToNat, am_lt, am_i_add, am_i_sub, am_i_mul, e6]
            · rw [t198_37, am_si_f (by omega), am_si_f (by omega), am_si_f (by omega), am_si_t (by omega), am_ob_p (kk_187 S), m_hoursOf S HM.2.2.2.1 (show p < 5 by omega), am_bI_p]
          · by_cases c4 : w < 10
            · refine Call_same (v := .int (am_i (-1))) (iv _) hq HC HM B h0 S ?_ (Eq.trans (go2 c4) ?_)
              · rw [t9, am_ob_p (kk_2 S), r1, am_bI_p, am_br_ne (by omega) (by omega) (by omega) (by omega), if_p1 g]
                rw [am_si_f (by omega), am_si_f (by omega), am_si_f (by omega), am_si_f (by omega), am_br_lt (by omega) (by omega) (by omega) (by omega), if_pos c4]
              · rw [t198_37, am_si_f (by omega), am_si_f (by omega), am_si_f (by omega), am_si_f (by omega)]
            · have b1 := is1_01 (wX W) 0 (w - 10)
              have r3 := c_isK S hh HX B1 (w := w - 10) (by omega) (by omega) 598
              have r4 := m_isKind S HY B1 (w := w - 10) (by omega) (by omega) 597
              by_cases g2 : is1 (wX W) 0 (w - 10) = 1
              · obtain ⟨k, hk, hk1⟩ := is1_ex g2
                have hk6 : k < 6 := by omega
                have e6 := HX.2.2.2.2.2.1 p hpP k hk6
                refine Call_same (v := .int (am_i (wX W 6 p k))) (iv _) hq HC HM B h0 S ?_ ?_
                · rw [t9, am_ob_p (kk_2 S), r1, am_bI_p, am_br_ne (by omega) (by omega) (by omega) (by omega), if_p1 g]
                  rw [am_si_f (by omega), am_si_f (by omega), am_si_f (by omega), am_si_f (by omega), am_br_lt (by omega) (by omega) (by omega) (by omega), if_neg c4, am_ob_p (kk_2 S), am_i_sub, r3, am_bI_p, am_br_eq (by omega) (by omega) (by omega) (by omega), if_p1 g2]
                  simp (disch := omega) only [am_ob_p (kk_2 S), am_ob_p (kk_3 S), am_ob_p (kk_63 S), am_ob_p (kk_64 S), rr_63_0 S, rr_63_1 S, rr_64_2 S, rr_64_3 S, rr_64_4 S, rr_64_5 S, rr_2_0 S, rr_2_1 S, rr_2_3 S, rr_2_4 S, rr_2_5 S, rr_2_8 S, rr_2_10 S, rr_2_12 S, rr_2_13 S, rr_2_14 S, am_ix_p (kk_30 S), am_iw_p (kk_30 S), am_ix_p (kk_33 S), am_iw_p (kk_33 S), am_ix_p (kk_34 S), am_iw_p (kk_34 S), am_ix_p (kk_35 S), am_iw_p (kk_35 S), am_ix_p (kk_36 S), am_iw_p (kk_36 S), am_ix_p (kk_37 S), am_iw_p (kk_37 S), am_ix_p (kk_65 S), am_iw_p (kk_65 S), am_ix_p (kk_66 S), am_iw_p (kk_66 S), am_ix_p (kk_67 S), am_iw_p (kk_67 S), am_ix_p (kk_68 S), am_iw_p (kk_68 S), am_ob_p (H_k0 S hh), am_ix_p (H_k1 S hh), am_iw_p (H_k1 S hh), am_ix_p (H_k6 S hh), am_iw_p (H_k6 S hh), am_ix_p (H_k16 S hh), am_iw_p (H_k16 S hh), am_ix_p (H_k17 S hh), am_iw_p (H_k17 S hh), am_ix_p (H_k24 S hh), am_iw_p (H_k24 S hh), H_r0_0 S hh, H_r0_1 S hh, H_r0_2 S hh, H_r0_3 S hh, H_r0_4 S hh, H_r0_5 S hh, H_r0_6 S hh, H_r0_15 S hh, H_r2 S hh, H_r7 S hh, H_r18 S hh, am_iq_p (H_k2 S hh), am_iq_p (H_k7 S hh), am_iq_p (H_k18 S hh), H_r18 S hh, am_ix_p (H_q18 S hh (show p < 5 by omega)), am_gr_p, am_i_ix, Int.toNat_zero, Int.toNat_one, Int.toNat_natCast, Int.reduceToNat, am_lt, am_i_add, am_i_sub, am_i_mul, hk, e6]
                · rw [t198, am_ob_p (kk_187 S), r2, am_bI_p, am_br_ne (by omega) (by omega) (by omega) (by omega), if_p1 g, am_br_lt (by omega) (by omega) (by omega) (by omega), if_neg c4, am_ob_p (kk_187 S), am_i_sub, r4, am_bI_p, am_br_eq (by omega) (by omega) (by omega) (by omega), if_p1 g2, am_ob_p (kk_187 S), hk, m_likesOf S HY B1 hpP hk6, am_bI_p]
              · have g2' := is1_0 g2
                refine Call_same (v := .int (am_i (-1))) (iv _) hq HC HM B h0 S ?_ ?_
                · rw [t9, am_ob_p (kk_2 S), r1, am_bI_p, am_br_ne (by omega) (by omega) (by omega) (by omega), if_p1 g]
                  rw [am_si_f (by omega), am_si_f (by omega), am_si_f (by omega), am_si_f (by omega), am_br_lt (by omega) (by omega) (by omega) (by omega), if_neg c4, am_ob_p (kk_2 S), am_i_sub, r3, am_bI_p, am_br_eq (by omega) (by omega) (by omega) (by omega), if_p0 g2']
                · rw [t198, am_ob_p (kk_187 S), r2, am_bI_p, am_br_ne (by omega) (by omega) (by omega) (by omega), if_p1 g, am_br_lt (by omega) (by omega) (by omega) (by omega), if_neg c4, am_ob_p (kk_187 S), am_i_sub, r4, am_bI_p, am_br_eq (by omega) (by omega) (by omega) (by omega), if_p0 g2', t198_37, am_si_f (by omega), am_si_f (by omega), am_si_f (by omega), am_si_f (by omega)]
  · have g' := is1_0 g
    refine Call_same (v := .int (am_i (-1))) (iv _) hq HC HM B h0 S ?_ ?_
    · rw [t9, am_ob_p (kk_2 S), r1, am_bI_p, am_br_ne (by omega) (by omega) (by omega) (by omega), if_p0 g']
    · rw [t198, am_ob_p (kk_187 S), r2, am_bI_p, am_br_ne (by omega) (by omega) (by omega) (by omega), if_p0 g']
