/-! chance. -/
theorem am_lbv (v : Int) : (am_l v).toBitVec = BitVec.ofInt 64 v := rfl
theorem and_l31 (v : Int) : am_l v &&& am_l 2147483647 = am_l (v % 2147483648) := by
  rw [← Int64.toBitVec_inj, Int64.toBitVec_and, am_lbv, am_lbv, am_lbv]
  apply BitVec.eq_of_toNat_eq
  rw [BitVec.toNat_and, BitVec.toNat_ofInt, BitVec.toNat_ofInt, BitVec.toNat_ofInt]
  have e : ((2147483647 : Int) % ((2 ^ 64 : Nat) : Int)).toNat = 2 ^ 31 - 1 := by decide
  rw [e, Nat.and_two_pow_sub_one_eq_mod]
  have e2 : ((2 ^ 64 : Nat) : Int) = 18446744073709551616 := by decide
  rw [e2]
  omega
/-- the next number drawn -/
def drw (d : Int) : Int := (1103515245 * d + 12345) % 2147483648
theorem drw_bd (d : Int) : 0 ≤ drw d ∧ drw d ≤ 2147483647 := by unfold drw; omega
theorem c_draw {L : Nat} {q : am_Pq} {M : am_M} (S : am_Sh L q M) {D : Int} (h0 : 0 ≤ D) (h1 : D ≤ 2147483647) (hd : am_I M 2 15 = am_i D) {k : Int} (k1 : 1 ≤ k) (k2 : k ≤ 2147483647) (d : Nat) : am_cl 52 d [.ref 2, .int (am_i k)] M = some (some (.int (am_i (drw D / 64 % k))), am_sI M 2 15 (am_i (drw D))) := by
  have bd := drw_bd D
  have S1 := S.sI 2 15 (am_i (drw D))
  have e : (1103515245 * D + 12345) % 2147483648 = drw D := rfl
  rw [t52, am_ob_p (kk_2 S), am_ob_p (kk_2 S), hd, am_i2l (by omega) (by omega), am_l_mul, am_l_add, and_l31, e, am_l2i]
  simp only [am_lt]
  rw [am_br_ge (by omega) (by omega) (by omega) (by omega), if_pos k1, am_ob_p (kk_2 S1), am_if_f (by decide), am_if_f (by rw [am_i_0, am_i_eq (by omega) (by omega) (by omega) (by omega)]; omega), am_I_same, am_i_div (by omega) (by omega) (by omega) (by omega), am_i_rem (by omega) (by omega) (by omega) (by omega)]
theorem m_draw {L : Nat} {q : am_Pq} {M : am_M} (S : am_Sh L q M) {D : Int} (h0 : 0 ≤ D) (h1 : D ≤ 2147483647) (hd : am_L M 187 70 = am_l D) {k : Int} (k1 : 1 ≤ k) (k2 : k ≤ 2147483647) (d : Nat) : am_cl 229 d [.ref 187, .int (am_i k)] M = some (some (.int (am_i (drw D / 64 % k))), am_sL M 187 70 (am_l (drw D))) := by
  have bd := drw_bd D
  have S1 := S.sL 187 70 (am_l (drw D))
  have e : (1103515245 * D + 12345) % 2147483648 = drw D := rfl
  rw [t229, am_ob_p (kk_187 S), am_if_f (by decide), hd, am_l_mul, am_l_add]
  simp only [am_lt]
  rw [am_ob_p (kk_187 S), am_l_rem (by omega) (by omega) (by omega) (by omega), e, am_ob_p (kk_187 S1), am_if_f (by decide), am_i2l (by omega) (by omega), am_if_f (fun h => by have h' : am_l k = am_l 0 := h; rw [am_l_eq (by omega) (by omega) (by omega) (by omega)] at h'; omega), am_L_same, am_l_div (by omega) (by omega) (by omega) (by omega), am_l_rem (by omega) (by omega) (by omega) (by omega), am_l2i]
/-- what a stranger does: account, rows, number drawn; whether he saw -/
abbrev am_Ts : Type := am_A × List Int × Int
def strg (X : am_X) (G : am_Gf) (t : am_Ts) : am_Ts × Int :=
  if X 11 0 0 ≤ drw t.2.2 / 64 % 100 then ((t.1, t.2.1, drw t.2.2), 0)
  else if nF X = 0 then ((t.1, t.2.1, drw t.2.2), 0)
  else if t.1 3 0 (drw (drw t.2.2) / 64 % (nF X : Int)).toNat < X 2 (drw (drw t.2.2) / 64 % (nF X : Int)).toNat 0 then ((see X G t.1 0 (drw (drw t.2.2) / 64 % (nF X : Int)).toNat, kpush t.2.1 (rowc t.1 9 (drw (drw t.2.2) / 64 % (nF X : Int)).toNat), drw (drw t.2.2)), 1)
  else ((t.1, t.2.1, drw (drw t.2.2)), 0)
theorem strg_bd {X : am_X} {G : am_Gf} (B : hB X) {t : am_Ts} (BA : aB X t.1) (BK : kB t.2.1) : aB X (strg X G t).1.1 ∧ kB (strg X G t).1.2.1 ∧ (0 ≤ (strg X G t).1.2.2 ∧ (strg X G t).1.2.2 ≤ 2147483647) ∧ (strg X G t).1.1 0 0 0 = t.1 0 0 0 ∧ ((strg X G t).2 = 0 ∨ (strg X G t).2 = 1) := by
  have d1 := drw_bd t.2.2
  have d2 := drw_bd (drw t.2.2)
  have hF := (hB_F B).2
  unfold strg
  by_cases g1 : X 11 0 0 ≤ drw t.2.2 / 64 % 100
  · rw [if_pos g1]; exact ⟨BA, BK, d1, rfl, Or.inl rfl⟩
  · rw [if_neg g1]
    by_cases g2 : nF X = 0
    · rw [if_pos g2]; exact ⟨BA, BK, d1, rfl, Or.inl rfl⟩
    · rw [if_neg g2]
      have hf : (drw (drw t.2.2) / 64 % (nF X : Int)).toNat < nF X := by
        have := Int.emod_lt_of_pos (drw (drw t.2.2) / 64) (show (0 : Int) < nF X by omega)
        have := Int.emod_nonneg (drw (drw t.2.2) / 64) (show (nF X : Int) ≠ 0 by omega)
        omega
      by_cases g3 : t.1 3 0 (drw (drw t.2.2) / 64 % (nF X : Int)).toNat < X 2 (drw (drw t.2.2) / 64 % (nF X : Int)).toNat 0
      · rw [if_pos g3]
        exact ⟨aB_see (G := G) B BA (by omega) hf g3, kpush_B BK (rowc_B BA (by omega) (by omega)), d2, see_ne _ _ _ _ _ (by omega) (by omega), Or.inr rfl⟩
      · rw [if_neg g3]; exact ⟨BA, BK, d2, rfl, Or.inl rfl⟩
def pU (b k : Nat) : Prop := pS 63 b k ∨ (b = 2 ∧ k = 15)
theorem c_stranger {L : Nat} {q : am_Pq} {M : am_M} (S : am_Sh L q M) (hh : isH q.2.2.1) {X : am_X} {G : am_Gf} {t : am_Ts} {bk : Nat} (HX : cH M q.2.2.1 X) (HG : cG M q.2.2.1 G) (HA : cA M 64 t.1) (HK : cK M 64 t.2.1 bk) (hbk : bk < 1900000000) (B : hB X) (BG : gB G) (BA : aB X t.1) (h0 : 0 ≤ t.2.2) (h1 : t.2.2 ≤ 2147483647) (hd : am_I M 2 15 = am_i t.2.2) :
    ∃ M', am_cl 51 598 [.ref 2] M = some (some (.int (am_i (strg X G t).2)), M') ∧ am_Sh L q M' ∧ fr pU M M' ∧ cA M' 64 (strg X G t).1.1 ∧ cK M' 64 (strg X G t).1.2.1 (bk + 1) ∧ am_I M' 2 15 = am_i (strg X G t).1.2.2 := by
  have c63 : isC 63 := Or.inl rfl
  have hh' : q.2.2.1 = 4 ∨ q.2.2.1 = 38 := hh
  obtain ⟨hFF, hF8⟩ := hB_F B
  have bst := hB_st B
  have bd1 := drw_bd t.2.2
  have bd2 := drw_bd (drw t.2.2)
  have e1 : am_I M (q.2.2.1 + 1) 1 = am_i (X 0 1 0) := HX.1 1 (by decide)
  have r1 := c_draw S h0 h1 hd (k := 100) (by decide) (by decide) 597
  have S1 := S.sI 2 15 (am_i (drw t.2.2))
  have f1 : fr pU M (am_sI M 2 15 (am_i (drw t.2.2))) := fr_sI (Or.inr ⟨rfl, rfl⟩)
  have e11 : am_I (am_sI M 2 15 (am_i (drw t.2.2))) q.2.2.1 11 = am_i (X 11 0 0) := by rw [am_I_ne1 (by omega)]; exact HX.2.2.2.2.2.2 4 (by decide)
  have HA1 : cA (am_sI M 2 15 (am_i (drw t.2.2))) 64 t.1 := cA_mv HA (fun b k k1 k2 k3 => am_I_ne1 (by omega))
  have HK1 : cK (am_sI M 2 15 (am_i (drw t.2.2))) 64 t.2.1 (bk + 1) := cK_le (cK_mv HK (am_I_ne1 (by omega)) (fun k => am_I_ne1 (by omega))) (by omega)
  unfold strg
  by_cases g1 : X 11 0 0 ≤ drw t.2.2 / 64 % 100
  · rw [if_pos g1]
    refine ⟨_, ?_, S1, f1, HA1, HK1, am_I_same _ _ _ _⟩
    rw [t51]
    simp (disch := omega) only [am_ob_p (kk_2 S), am_ob_p (kk_3 S), am_ob_p (kk_63 S), am_ob_p (kk_64 S), rr_63_0 S, rr_63_1 S, rr_64_2 S, rr_64_3 S, rr_64_4 S, rr_64_5 S, rr_2_0 S, rr_2_1 S, rr_2_3 S, rr_2_4 S, rr_2_5 S, rr_2_8 S, rr_2_10 S, rr_2_12 S, rr_2_13 S, rr_2_14 S, am_ix_p (kk_30 S), am_iw_p (kk_30 S), am_ix_p (kk_33 S), am_iw_p (kk_33 S), am_ix_p (kk_34 S), am_iw_p (kk_34 S), am_ix_p (kk_35 S), am_iw_p (kk_35 S), am_ix_p (kk_36 S), am_iw_p (kk_36 S), am_ix_p (kk_37 S), am_iw_p (kk_37 S), am_ix_p (kk_65 S), am_iw_p (kk_65 S), am_ix_p (kk_66 S), am_iw_p (kk_66 S), am_ix_p (kk_67 S), am_iw_p (kk_67 S), am_ix_p (kk_68 S), am_iw_p (kk_68 S), am_gr_p, am_ob_p (H_k0 S hh), am_ix_p (H_k1 S hh), am_iw_p (H_k1 S hh), am_ix_p (H_k6 S hh), am_iw_p (H_k6 S hh), am_ix_p (H_k16 S hh), am_iw_p (H_k16 S hh), am_ix_p (H_k17 S hh), am_iw_p (H_k17 S hh), am_ix_p (H_k24 S hh), am_iw_p (H_k24 S hh), H_r0_0 S hh, H_r0_1 S hh, H_r0_2 S hh, H_r0_3 S hh, H_r0_4 S hh, H_r0_5 S hh, H_r0_6 S hh, H_r0_15 S hh, H_r2 S hh, H_r7 S hh, H_r18 S hh, am_iq_p (H_k2 S hh), am_iq_p (H_k7 S hh), am_iq_p (H_k18 S hh), am_i_ix, Int.reduceToNat]
    rw [r1, am_bI_p]
    simp (disch := omega) only [am_ob_p (kk_2 S1), am_ob_p (kk_3 S1), am_ob_p (kk_63 S1), am_ob_p (kk_64 S1), rr_63_0 S1, rr_63_1 S1, rr_64_2 S1, rr_64_3 S1, rr_64_4 S1, rr_64_5 S1, rr_2_0 S1, rr_2_1 S1, rr_2_3 S1, rr_2_4 S1, rr_2_5 S1, rr_2_8 S1, rr_2_10 S1, rr_2_12 S1, rr_2_13 S1, rr_2_14 S1, am_ix_p (kk_30 S1), am_iw_p (kk_30 S1), am_ix_p (kk_33 S1), am_iw_p (kk_33 S1), am_ix_p (kk_34 S1), am_iw_p (kk_34 S1), am_ix_p (kk_35 S1), am_iw_p (kk_35 S1), am_ix_p (kk_36 S1), am_iw_p (kk_36 S1), am_ix_p (kk_37 S1), am_iw_p (kk_37 S1), am_ix_p (kk_65 S1), am_iw_p (kk_65 S1), am_ix_p (kk_66 S1), am_iw_p (kk_66 S1), am_ix_p (kk_67 S1), am_iw_p (kk_67 S1), am_ix_p (kk_68 S1), am_iw_p (kk_68 S1), am_gr_p, am_ob_p (H_k0 S1 hh), am_ix_p (H_k1 S1 hh), am_iw_p (H_k1 S1 hh), am_ix_p (H_k6 S1 hh), am_iw_p (H_k6 S1 hh), am_ix_p (H_k16 S1 hh), am_iw_p (H_k16 S1 hh), am_ix_p (H_k17 S1 hh), am_iw_p (H_k17 S1 hh), am_ix_p (H_k24 S1 hh), am_iw_p (H_k24 S1 hh), H_r0_0 S1 hh, H_r0_1 S1 hh, H_r0_2 S1 hh, H_r0_3 S1 hh, H_r0_4 S1 hh, H_r0_5 S1 hh, H_r0_6 S1 hh, H_r0_15 S1 hh, H_r2 S1 hh, H_r7 S1 hh, H_r18 S1 hh, am_iq_p (H_k2 S1 hh), am_iq_p (H_k7 S1 hh), am_iq_p (H_k18 S1 hh), e11, am_br_ge]
    rw [if_pos g1, am_tr_0]
  · rw [if_neg g1]
    by_cases g2 : nF X = 0
    · rw [if_pos g2]
      refine ⟨_, ?_, S1, f1, HA1, HK1, am_I_same _ _ _ _⟩
      rw [t51]
      simp (disch := omega) only [am_ob_p (kk_2 S), am_ob_p (kk_3 S), am_ob_p (kk_63 S), am_ob_p (kk_64 S), rr_63_0 S, rr_63_1 S, rr_64_2 S, rr_64_3 S, rr_64_4 S, rr_64_5 S, rr_2_0 S, rr_2_1 S, rr_2_3 S, rr_2_4 S, rr_2_5 S, rr_2_8 S, rr_2_10 S, rr_2_12 S, rr_2_13 S, rr_2_14 S, am_ix_p (kk_30 S), am_iw_p (kk_30 S), am_ix_p (kk_33 S), am_iw_p (kk_33 S), am_ix_p (kk_34 S), am_iw_p (kk_34 S), am_ix_p (kk_35 S), am_iw_p (kk_35 S), am_ix_p (kk_36 S), am_iw_p (kk_36 S), am_ix_p (kk_37 S), am_iw_p (kk_37 S), am_ix_p (kk_65 S), am_iw_p (kk_65 S), am_ix_p (kk_66 S), am_iw_p (kk_66 S), am_ix_p (kk_67 S), am_iw_p (kk_67 S), am_ix_p (kk_68 S), am_iw_p (kk_68 S), am_gr_p, am_ob_p (H_k0 S hh), am_ix_p (H_k1 S hh), am_iw_p (H_k1 S hh), am_ix_p (H_k6 S hh), am_iw_p (H_k6 S hh), am_ix_p (H_k16 S hh), am_iw_p (H_k16 S hh), am_ix_p (H_k17 S hh), am_iw_p (H_k17 S hh), am_ix_p (H_k24 S hh), am_iw_p (H_k24 S hh), H_r0_0 S hh, H_r0_1 S hh, H_r0_2 S hh, H_r0_3 S hh, H_r0_4 S hh, H_r0_5 S hh, H_r0_6 S hh, H_r0_15 S hh, H_r2 S hh, H_r7 S hh, H_r18 S hh, am_iq_p (H_k2 S hh), am_iq_p (H_k7 S hh), am_iq_p (H_k18 S hh), am_i_ix, Int.reduceToNat]
      rw [r1, am_bI_p]
      simp (disch := omega) only [am_ob_p (kk_2 S1), am_ob_p (kk_3 S1), am_ob_p (kk_63 S1), am_ob_p (kk_64 S1), rr_63_0 S1, rr_63_1 S1, rr_64_2 S1, rr_64_3 S1, rr_64_4 S1, rr_64_5 S1, rr_2_0 S1, rr_2_1 S1, rr_2_3 S1, rr_2_4 S1, rr_2_5 S1, rr_2_8 S1, rr_2_10 S1, rr_2_12 S1, rr_2_13 S1, rr_2_14 S1, am_ix_p (kk_30 S1), am_iw_p (kk_30 S1), am_ix_p (kk_33 S1), am_iw_p (kk_33 S1), am_ix_p (kk_34 S1), am_iw_p (kk_34 S1), am_ix_p (kk_35 S1), am_iw_p (kk_35 S1), am_ix_p (kk_36 S1), am_iw_p (kk_36 S1), am_ix_p (kk_37 S1), am_iw_p (kk_37 S1), am_ix_p (kk_65 S1), am_iw_p (kk_65 S1), am_ix_p (kk_66 S1), am_iw_p (kk_66 S1), am_ix_p (kk_67 S1), am_iw_p (kk_67 S1), am_ix_p (kk_68 S1), am_iw_p (kk_68 S1), am_gr_p, am_ob_p (H_k0 S1 hh), am_ix_p (H_k1 S1 hh), am_iw_p (H_k1 S1 hh), am_ix_p (H_k6 S1 hh), am_iw_p (H_k6 S1 hh), am_ix_p (H_k16 S1 hh), am_iw_p (H_k16 S1 hh), am_ix_p (H_k17 S1 hh), am_iw_p (H_k17 S1 hh), am_ix_p (H_k24 S1 hh), am_iw_p (H_k24 S1 hh), H_r0_0 S1 hh, H_r0_1 S1 hh, H_r0_2 S1 hh, H_r0_3 S1 hh, H_r0_4 S1 hh, H_r0_5 S1 hh, H_r0_6 S1 hh, H_r0_15 S1 hh, H_r2 S1 hh, H_r7 S1 hh, H_r18 S1 hh, am_iq_p (H_k2 S1 hh), am_iq_p (H_k7 S1 hh), am_iq_p (H_k18 S1 hh), e11, am_br_ge]
      rw [if_neg g1, e1, am_br_ne (by omega) (by omega) (by omega) (by omega), if_pos (by omega), am_tr_0]
    · rw [if_neg g2]
      have hf0 := Int.emod_nonneg (drw (drw t.2.2) / 64) (show (nF X : Int) ≠ 0 by omega)
      have hf1 := Int.emod_lt_of_pos (drw (drw t.2.2) / 64) (show (0 : Int) < nF X by omega)
      obtain ⟨f, hfe⟩ : ∃ f : Nat, drw (drw t.2.2) / 64 % (nF X : Int) = f := ⟨(drw (drw t.2.2) / 64 % (nF X : Int)).toNat, by omega⟩
      rw [hfe] at hf0 hf1 ⊢
      rw [Int.toNat_natCast]
      have hfF : f < nF X := by omega
      have r2 := c_draw S1 bd1.1 bd1.2 (am_I_same _ _ _ _) (k := (nF X : Int)) (by omega) (by omega) 597
      rw [hfe] at r2
      have S2 := S1.sI 2 15 (am_i (drw (drw t.2.2)))
      have f2 : fr pU M (am_sI (am_sI M 2 15 (am_i (drw t.2.2))) 2 15 (am_i (drw (drw t.2.2)))) := fr_tr f1 (fr_sI (Or.inr ⟨rfl, rfl⟩))
      have eM : ∀ b k, b ≠ 2 → am_I (am_sI (am_sI M 2 15 (am_i (drw t.2.2))) 2 15 (am_i (drw (drw t.2.2)))) b k = am_I M b k := fun b k h => by rw [am_I_ne1 h, am_I_ne1 h]
      have HA2 : cA (am_sI (am_sI M 2 15 (am_i (drw t.2.2))) 2 15 (am_i (drw (drw t.2.2)))) 64 t.1 := cA_mv HA (fun b k k1 k2 k3 => eM b k (by omega))
      have HK2 : cK (am_sI (am_sI M 2 15 (am_i (drw t.2.2))) 2 15 (am_i (drw (drw t.2.2)))) 64 t.2.1 bk := cK_mv HK (eM _ _ (by omega)) (fun k => eM _ _ (by omega))
      have HX2 : cH (am_sI (am_sI M 2 15 (am_i (drw t.2.2))) 2 15 (am_i (drw (drw t.2.2)))) q.2.2.1 X := cH_mv HX B (fun b k k1 k2 => eM b k (by omega))
      have es : am_I (am_sI (am_sI M 2 15 (am_i (drw t.2.2))) 2 15 (am_i (drw (drw t.2.2)))) 66 f = am_i (t.1 3 0 f) := by
        have := HA2.2.2.2.1 0 (by decide) f (by omega)
        rw [show 8 * 0 + f = f by omega] at this
        exact this
      have ep : am_I (am_sI (am_sI M 2 15 (am_i (drw t.2.2))) 2 15 (am_i (drw (drw t.2.2)))) (q.2.2.1 + 6) f = am_i (X 2 f 0) := HX2.2.1 f hfF
      have bs1 := aB_se BA (q := 0) (by decide) (show f < 8 by omega)
      have bs2 := hB_pt B hfF
      have bs3 := bs1.2 hfF
      have pref : am_cl 51 598 [.ref 2] M = if t.1 3 0 f < X 2 f 0 then (am_bV (am_cl 77 597 [.ref 63, .int (am_i 0), .int (am_i f), .int (am_i 9)] (am_sI (am_sI M 2 15 (am_i (drw t.2.2))) 2 15 (am_i (drw (drw t.2.2))))) (fun M17 => am_tr (am_i 1) (some (some (.int (am_i 1)), M17)) none)) else (some (some (.int (am_i 0)), am_sI (am_sI M 2 15 (am_i (drw t.2.2))) 2 15 (am_i (drw (drw t.2.2)))) : am_Q) := by
        rw [t51]
        simp (disch := omega) only [am_ob_p (kk_2 S), am_ob_p (kk_3 S), am_ob_p (kk_63 S), am_ob_p (kk_64 S), rr_63_0 S, rr_63_1 S, rr_64_2 S, rr_64_3 S, rr_64_4 S, rr_64_5 S, rr_2_0 S, rr_2_1 S, rr_2_3 S, rr_2_4 S, rr_2_5 S, rr_2_8 S, rr_2_10 S, rr_2_12 S, rr_2_13 S, rr_2_14 S, am_ix_p (kk_30 S), am_iw_p (kk_30 S), am_ix_p (kk_33 S), am_iw_p (kk_33 S), am_ix_p (kk_34 S), am_iw_p (kk_34 S), am_ix_p (kk_35 S), am_iw_p (kk_35 S), am_ix_p (kk_36 S), am_iw_p (kk_36 S), am_ix_p (kk_37 S), am_iw_p (kk_37 S), am_ix_p (kk_65 S), am_iw_p (kk_65 S), am_ix_p (kk_66 S), am_iw_p (kk_66 S), am_ix_p (kk_67 S), am_iw_p (kk_67 S), am_ix_p (kk_68 S), am_iw_p (kk_68 S), am_gr_p, am_ob_p (H_k0 S hh), am_ix_p (H_k1 S hh), am_iw_p (H_k1 S hh), am_ix_p (H_k6 S hh), am_iw_p (H_k6 S hh), am_ix_p (H_k16 S hh), am_iw_p (H_k16 S hh), am_ix_p (H_k17 S hh), am_iw_p (H_k17 S hh), am_ix_p (H_k24 S hh), am_iw_p (H_k24 S hh), H_r0_0 S hh, H_r0_1 S hh, H_r0_2 S hh, H_r0_3 S hh, H_r0_4 S hh, H_r0_5 S hh, H_r0_6 S hh, H_r0_15 S hh, H_r2 S hh, H_r7 S hh, H_r18 S hh, am_iq_p (H_k2 S hh), am_iq_p (H_k7 S hh), am_iq_p (H_k18 S hh), am_i_ix, Int.reduceToNat]
        rw [r1, am_bI_p]
        simp (disch := omega) only [am_ob_p (kk_2 S1), am_ob_p (kk_3 S1), am_ob_p (kk_63 S1), am_ob_p (kk_64 S1), rr_63_0 S1, rr_63_1 S1, rr_64_2 S1, rr_64_3 S1, rr_64_4 S1, rr_64_5 S1, rr_2_0 S1, rr_2_1 S1, rr_2_3 S1, rr_2_4 S1, rr_2_5 S1, rr_2_8 S1, rr_2_10 S1, rr_2_12 S1, rr_2_13 S1, rr_2_14 S1, am_ix_p (kk_30 S1), am_iw_p (kk_30 S1), am_ix_p (kk_33 S1), am_iw_p (kk_33 S1), am_ix_p (kk_34 S1), am_iw_p (kk_34 S1), am_ix_p (kk_35 S1), am_iw_p (kk_35 S1), am_ix_p (kk_36 S1), am_iw_p (kk_36 S1), am_ix_p (kk_37 S1), am_iw_p (kk_37 S1), am_ix_p (kk_65 S1), am_iw_p (kk_65 S1), am_ix_p (kk_66 S1), am_iw_p (kk_66 S1), am_ix_p (kk_67 S1), am_iw_p (kk_67 S1), am_ix_p (kk_68 S1), am_iw_p (kk_68 S1), am_gr_p, am_ob_p (H_k0 S1 hh), am_ix_p (H_k1 S1 hh), am_iw_p (H_k1 S1 hh), am_ix_p (H_k6 S1 hh), am_iw_p (H_k6 S1 hh), am_ix_p (H_k16 S1 hh), am_iw_p (H_k16 S1 hh), am_ix_p (H_k17 S1 hh), am_iw_p (H_k17 S1 hh), am_ix_p (H_k24 S1 hh), am_iw_p (H_k24 S1 hh), H_r0_0 S1 hh, H_r0_1 S1 hh, H_r0_2 S1 hh, H_r0_3 S1 hh, H_r0_4 S1 hh, H_r0_5 S1 hh, H_r0_6 S1 hh, H_r0_15 S1 hh, H_r2 S1 hh, H_r7 S1 hh, H_r18 S1 hh, am_iq_p (H_k2 S1 hh), am_iq_p (H_k7 S1 hh), am_iq_p (H_k18 S1 hh), e11, am_br_ge]
        rw [if_neg g1, e1, am_br_ne (by omega) (by omega) (by omega) (by omega), if_neg (by omega), ← hFF, r2, am_bI_p]
        simp (disch := omega) only [am_ob_p (kk_2 S2), am_ob_p (kk_3 S2), am_ob_p (kk_63 S2), am_ob_p (kk_64 S2), rr_63_0 S2, rr_63_1 S2, rr_64_2 S2, rr_64_3 S2, rr_64_4 S2, rr_64_5 S2, rr_2_0 S2, rr_2_1 S2, rr_2_3 S2, rr_2_4 S2, rr_2_5 S2, rr_2_8 S2, rr_2_10 S2, rr_2_12 S2, rr_2_13 S2, rr_2_14 S2, am_ix_p (kk_30 S2), am_iw_p (kk_30 S2), am_ix_p (kk_33 S2), am_iw_p (kk_33 S2), am_ix_p (kk_34 S2), am_iw_p (kk_34 S2), am_ix_p (kk_35 S2), am_iw_p (kk_35 S2), am_ix_p (kk_36 S2), am_iw_p (kk_36 S2), am_ix_p (kk_37 S2), am_iw_p (kk_37 S2), am_ix_p (kk_65 S2), am_iw_p (kk_65 S2), am_ix_p (kk_66 S2), am_iw_p (kk_66 S2), am_ix_p (kk_67 S2), am_iw_p (kk_67 S2), am_ix_p (kk_68 S2), am_iw_p (kk_68 S2), am_gr_p, am_ob_p (H_k0 S2 hh), am_ix_p (H_k1 S2 hh), am_iw_p (H_k1 S2 hh), am_ix_p (H_k6 S2 hh), am_iw_p (H_k6 S2 hh), am_ix_p (H_k16 S2 hh), am_iw_p (H_k16 S2 hh), am_ix_p (H_k17 S2 hh), am_iw_p (H_k17 S2 hh), am_ix_p (H_k24 S2 hh), am_iw_p (H_k24 S2 hh), H_r0_0 S2 hh, H_r0_1 S2 hh, H_r0_2 S2 hh, H_r0_3 S2 hh, H_r0_4 S2 hh, H_r0_5 S2 hh, H_r0_6 S2 hh, H_r0_15 S2 hh, H_r2 S2 hh, H_r7 S2 hh, H_r18 S2 hh, am_iq_p (H_k2 S2 hh), am_iq_p (H_k7 S2 hh), am_iq_p (H_k18 S2 hh), am_i_ix, Int.toNat_natCast, es, ep, am_br_lt, am_tr_0]
      by_cases g3 : t.1 3 0 f < X 2 f 0
      · rw [if_pos g3] at pref ⊢
        obtain ⟨M3, r3, S3, f3, HA3, HK3⟩ := c_seePart S2 c63 hh (rr_63_0 S2) HX2 (cG_mv HG (fun b k k1 k2 => eM b k (by omega))) HA2 HK2 (by omega) B BG BA (q := 0) (by omega) hfF g3 9 594
        refine ⟨M3, ?_, S3, fr_tr f2 (fr_mono f3 (fun b k h => Or.inl h)), HA3, HK3, by rw [(f3 2 15 (by unfold pS; omega)).1]; exact am_I_same _ _ _ _⟩
        rw [pref]
        have r3' : am_cl 77 597 [.ref 63, .int (am_i 0), .int (am_i f), .int (am_i 9)] (am_sI (am_sI M 2 15 (am_i (drw t.2.2))) 2 15 (am_i (drw (drw t.2.2)))) = some (none, M3) := r3
        rw [r3', am_bV_p, am_tr_1]
      · rw [if_neg g3] at pref ⊢
        exact ⟨_, pref, S2, f2, HA2, cK_le HK2 (by omega), am_I_same _ _ _ _⟩
def pV (b k : Nat) : Prop := pN b k ∨ pK b k ∨ (b = 187 ∧ k = 70)
theorem m_stranger {L : Nat} {q : am_Pq} {M : am_M} (S : am_Sh L q M) {X : am_X} {G : am_Gf} {t : am_Ts} (HX : mH M X) (HG : mG M G) (HA : mA M t.1) (HK : mK M t.2.1) (h60 : am_I M 187 60 = am_i 0) (B : hB X) (BG : gB G) (BA : aB X t.1) (h0 : 0 ≤ t.2.2) (h1 : t.2.2 ≤ 2147483647) (hd : am_L M 187 70 = am_l t.2.2) :
    ∃ M', am_cl 230 598 [.ref 187] M = some (some (.int (am_i (strg X G t).2)), M') ∧ am_Sh L q M' ∧ fr pV M M' ∧ mA M' (strg X G t).1.1 ∧ mK M' (strg X G t).1.2.1 ∧ am_L M' 187 70 = am_l (strg X G t).1.2.2 ∧ am_I M' 187 60 = am_i 0 := by
  obtain ⟨hFF, hF8⟩ := hB_F B
  have bst := hB_st B
  have bd1 := drw_bd t.2.2
  have bd2 := drw_bd (drw t.2.2)
  have r1 := m_draw S h0 h1 hd (k := 100) (by decide) (by decide) 597
  have S1 := S.sL 187 70 (am_l (drw t.2.2))
  have f1 : fr pV M (am_sL M 187 70 (am_l (drw t.2.2))) := fr_sL (Or.inr (Or.inr ⟨rfl, rfl⟩))
  have e11 : am_I (am_sL M 187 70 (am_l (drw t.2.2))) 225 7 = am_i (X 11 0 0) := HX.2.2.2.2.2.2 3 (by decide)
  have HX1 : mH (am_sL M 187 70 (am_l (drw t.2.2))) X := mH_mv HX B (fun b k k1 k2 k3 => rfl)
  have HA1 : mA (am_sL M 187 70 (am_l (drw t.2.2))) t.1 := mA_mv HA (fun k hk => rfl)
  have HK1 : mK (am_sL M 187 70 (am_l (drw t.2.2))) t.2.1 := mK_mv HK (fun k hk => rfl)
  unfold strg
  by_cases g1 : X 11 0 0 ≤ drw t.2.2 / 64 % 100
  · rw [if_pos g1]
    refine ⟨_, ?_, S1, f1, HA1, HK1, am_L_same _ _ _ _, h60⟩
    rw [t230, am_ob_p (kk_187 S), r1, am_bI_p]
    simp (disch := omega) only [am_ob_p (kk_187 S1), rr_187_47 S1, am_gr_p, am_ix_p (kk_225 S1), am_i_ix, Int.reduceToNat, e11, am_br_ge]
    rw [if_pos g1, am_tr_0]
  · rw [if_neg g1]
    by_cases g2 : nF X = 0
    · rw [if_pos g2]
      refine ⟨_, ?_, S1, f1, HA1, HK1, am_L_same _ _ _ _, h60⟩
      rw [t230, am_ob_p (kk_187 S), r1, am_bI_p]
      simp (disch := omega) only [am_ob_p (kk_187 S1), rr_187_47 S1, am_gr_p, am_ix_p (kk_225 S1), am_i_ix, Int.reduceToNat, e11, am_br_ge]
      rw [if_neg g1, m_filmMany S1 HX1, am_bI_p, am_br_ne (by omega) (by omega) (by omega) (by omega), if_pos (by omega), am_tr_0]
    · rw [if_neg g2]
      have hf0 := Int.emod_nonneg (drw (drw t.2.2) / 64) (show (nF X : Int) ≠ 0 by omega)
      have hf1 := Int.emod_lt_of_pos (drw (drw t.2.2) / 64) (show (0 : Int) < nF X by omega)
      obtain ⟨f, hfe⟩ : ∃ f : Nat, drw (drw t.2.2) / 64 % (nF X : Int) = f := ⟨(drw (drw t.2.2) / 64 % (nF X : Int)).toNat, by omega⟩
      rw [hfe] at hf0 hf1 ⊢
      rw [Int.toNat_natCast]
      have hfF : f < nF X := by omega
      have r2 := m_draw S1 bd1.1 bd1.2 (am_L_same _ _ _ _) (k := (nF X : Int)) (by omega) (by omega) 597
      rw [hfe] at r2
      have S2 := S1.sL 187 70 (am_l (drw (drw t.2.2)))
      have f2 : fr pV M (am_sL (am_sL M 187 70 (am_l (drw t.2.2))) 187 70 (am_l (drw (drw t.2.2)))) := fr_tr f1 (fr_sL (Or.inr (Or.inr ⟨rfl, rfl⟩)))
      have HX2 : mH (am_sL (am_sL M 187 70 (am_l (drw t.2.2))) 187 70 (am_l (drw (drw t.2.2)))) X := mH_mv HX B (fun b k k1 k2 k3 => rfl)
      have HA2 : mA (am_sL (am_sL M 187 70 (am_l (drw t.2.2))) 187 70 (am_l (drw (drw t.2.2)))) t.1 := mA_mv HA (fun k hk => rfl)
      have HK2 : mK (am_sL (am_sL M 187 70 (am_l (drw t.2.2))) 187 70 (am_l (drw (drw t.2.2)))) t.2.1 := mK_mv HK (fun k hk => rfl)
      have bs1 := aB_se BA (q := 0) (by decide) (show f < 8 by omega)
      have bs2 := hB_pt B hfF
      have bs3 := bs1.2 hfF
      have r5 := m_seenBy S2 HA2 (q := 0) (by decide) (show f < 8 by omega) 596
      have r6 := m_partsOf S2 HX2 B hfF 597
      have pref : am_cl 230 598 [.ref 187] M = if t.1 3 0 f = X 2 f 0 then (some (some (.int (am_i 0)), am_sL (am_sL M 187 70 (am_l (drw t.2.2))) 187 70 (am_l (drw (drw t.2.2)))) : am_Q) else (am_bV (am_cl 180 597 [.ref 187, .int (am_i ((0 : Nat) : Int)), .int (am_i f)] (am_sL (am_sL M 187 70 (am_l (drw t.2.2))) 187 70 (am_l (drw (drw t.2.2))))) (fun M14 => am_ob M14 187 6 (am_bV (am_cl 181 597 [.ref 187, .int (am_i ((9 : Nat) : Int)), .int (am_i f)] M14) (fun M15 => am_tr (am_i 1) (some (some (.int (am_i 1)), M15)) none)) none)) := by
        rw [t230, am_ob_p (kk_187 S), r1, am_bI_p]
        simp (disch := omega) only [am_ob_p (kk_187 S1), rr_187_47 S1, am_gr_p, am_ix_p (kk_225 S1), am_i_ix, Int.reduceToNat, e11, am_br_ge]
        rw [if_neg g1, m_filmMany S1 HX1, am_bI_p, am_br_ne (by omega) (by omega) (by omega) (by omega), if_neg (by omega), am_ob_p (kk_187 S1), m_filmMany S1 HX1, am_bI_p, am_ob_p (kk_187 S1), ← hFF, r2, am_bI_p, am_ob_p (kk_187 S2), show (am_i 0) = am_i ((0 : Nat) : Int) from rfl, r5, am_bI_p, am_ob_p (kk_187 S2), r6, am_bI_p, am_br_ne (by omega) (by omega) (by omega) (by omega), am_ob_p (kk_187 S2), show am_tr (am_i ((0 : Nat) : Int)) = am_tr (am_i 0) from rfl, am_tr_0]
        rfl
      by_cases g3 : t.1 3 0 f < X 2 f 0
      · rw [if_neg (by omega)] at pref
        rw [if_pos g3]
        obtain ⟨M3, r3, S3, f3, HA3⟩ := m_partSeen S2 HX2 (mG_mv HG (fun b k k1 k2 k3 k4 => rfl)) HA2 B BG BA (q := 0) (by omega) hfF g3 593
        have et : see X G t.1 0 f 0 0 0 = t.1 0 0 0 := see_ne _ _ _ _ _ (by omega) (by omega)
        have er2 : rowc (see X G t.1 0 f) 9 f = rowc t.1 9 f := by unfold rowc; rw [et]
        have h60' : am_I M3 187 60 = am_i 0 := by rw [(f3 187 60 (by unfold pN; omega)).1]; exact h60
        obtain ⟨M4, r4, S4, f4, HK4⟩ := m_isKept S3 HA3 (by rw [et]; exact (aB_t BA).1) (mK_mv HK2 (fun k hk => (f3 229 k (by unfold pN; omega)).1)) h60' (p := 9) (f := f) (by omega) (by omega) 597
        rw [er2] at HK4
        refine ⟨M4, ?_, S4, fr_tr f2 (fr_tr (fr_mono f3 (fun b k h => Or.inl h)) (fr_mono f4 (fun b k h => Or.inr (Or.inl h)))), mA_mv HA3 (fun k hk => (f4 229 k (by unfold pK; omega)).1), HK4, ?_, by rw [(f4 187 60 (by unfold pK; omega)).1]; exact h60'⟩
        · rw [pref, r3, am_bV_p, am_ob_p (kk_187 S3), r4, am_bV_p, am_tr_1]
        · rw [(f4 187 70 (by unfold pK; omega)).2, (f3 187 70 (by unfold pN; omega)).2]; exact am_L_same _ _ _ _
      · rw [if_pos (by omega)] at pref
        rw [if_neg g3]
        exact ⟨_, pref, S2, f2, HA2, HK2, am_L_same _ _ _ _, h60⟩
/-- hours with chance: account, rows, number drawn; how many strangers saw -/
def chS (X : am_X) (G : am_Gf) (t : am_Ts) : Nat → am_Ts
  | 0 => t
  | n + 1 => ((hour X G ((strg X G (chS X G t n)).1.1, qz, (strg X G (chS X G t n)).1.2.1)).1, (hour X G ((strg X G (chS X G t n)).1.1, qz, (strg X G (chS X G t n)).1.2.1)).2.2, (strg X G (chS X G t n)).1.2.2)
def chN (X : am_X) (G : am_Gf) (t : am_Ts) : Nat → Int
  | 0 => 0
  | n + 1 => chN X G t n + (strg X G (chS X G t n)).2
theorem chS_bd {X : am_X} {G : am_Gf} (B : hB X) {t : am_Ts} (BA : aB X t.1) (BK : kB t.2.1) (h0 : 0 ≤ t.2.2) (h1 : t.2.2 ≤ 2147483647) : ∀ n : Nat, t.1 0 0 0 + n ≤ 23999 → aB X (chS X G t n).1 ∧ kB (chS X G t n).2.1 ∧ (0 ≤ (chS X G t n).2.2 ∧ (chS X G t n).2.2 ≤ 2147483647) ∧ (chS X G t n).1 0 0 0 = t.1 0 0 0 + n
  | 0, _ => ⟨BA, BK, ⟨h0, h1⟩, by show t.1 0 0 0 = t.1 0 0 0 + ((0 : Nat) : Int); omega⟩
  | n + 1, h => by
    obtain ⟨g1, g2, g3, g4⟩ := chS_bd (G := G) B BA BK h0 h1 n (by omega)
    obtain ⟨k1, k2, k3, k4, k5⟩ := strg_bd (G := G) B g1 g2
    obtain ⟨j1, j2⟩ := hour_bd (G := G) (s := ((strg X G (chS X G t n)).1.1, qz, (strg X G (chS X G t n)).1.2.1)) B k1 (by dsimp only; omega)
    refine ⟨j1, hour_kB (s := ((strg X G (chS X G t n)).1.1, qz, (strg X G (chS X G t n)).1.2.1)) B k1 k2, k3, ?_⟩
    show (hour X G ((strg X G (chS X G t n)).1.1, qz, (strg X G (chS X G t n)).1.2.1)).1 0 0 0 = _
    rw [j2]
    dsimp only
    omega
theorem chN_bd (X : am_X) (G : am_Gf) (t : am_Ts) : ∀ n : Nat, 0 ≤ chN X G t n ∧ chN X G t n ≤ n
  | 0 => ⟨Int.le_refl _, Int.le_refl _⟩
  | n + 1 => by
    have h := chN_bd X G t n
    have : (strg X G (chS X G t n)).2 = 0 ∨ (strg X G (chS X G t n)).2 = 1 := by
      unfold strg
      split
      · exact Or.inl rfl
      · split
        · exact Or.inl rfl
        · split
          · exact Or.inr rfl
          · exact Or.inl rfl
    show 0 ≤ chN X G t n + (strg X G (chS X G t n)).2 ∧ chN X G t n + (strg X G (chS X G t n)).2 ≤ ((n + 1 : Nat) : Int)
    omega
