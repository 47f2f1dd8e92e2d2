/-! on, the call. -/
theorem call_on {L : Nat} {xs : Nat → Int32} {M : am_M} {W : am_Wo} {b : Nat} (R : Rel L xs M W b) : Call L xs 35 270 [] M b := by
  obtain ⟨q, hq, S, HC, HM, B, h0⟩ := R
  have hh := qok_h hq
  have hh' : q.2.2.1 = 4 ∨ q.2.2.1 = 38 := hh
  have B1 := B.1
  have BA := B.2.2.2.1
  have BZ := B.2.2.2.2.2.2
  obtain ⟨hPP, hP5⟩ := hB_P B1
  have hpb : pb (wX W) ≤ 3 + 20 * (nP (wX W) + 1) := pf_bd B1 (nP (wX W) + 1)
  have HZc := HC.2.2.2.2.2.2.1
  have bN := BZ.2.1
  have eT := c_takeTape S HZc 598
  have S1 := S.sI 2 2 (am_i 0)
  have HX1 : cH (am_sI M 2 2 (am_i 0)) q.2.2.1 (wX W) := cH_mv HC.1 B1 (fun b k h1 h2 => am_I_ne1 (by omega))
  have z1 := cWz_t HZc
  have e0 : ∀ k, tZ (wZ W) 0 k = wZ W 0 k := fun k => uZ_ne (by omega)
  have HI1 : ∀ k, k < 1600 → am_I (am_sI M 2 2 (am_i 0)) 30 k = am_i (wZ W 0 k) := fun k hk => by rw [am_I_ne1 (by omega)]; exact HZc.1 k hk
  have rL : am_cl 59 598 [.ref 2] (am_sI M 2 2 (am_i 0)) = some (some (.int (am_i ((pb (wX W) + 3 * nP (wX W) + 1 : Nat) : Int))), am_sI M 2 2 (am_i 0)) := c_lengthOfImage S1 hh HX1 B1 598
  -- what the reference finds
  have mim : ∀ M1, am_Sh L q M1 → mWo M1 W → am_cl 269 598 [.ref 187, .int (am_i (wZ W 1 0))] (am_sI M1 187 1 (am_i 0)) = some (some (.int (am_i (isImg (wX W) (wZ W) (wZ W 1 0)))), am_sI M1 187 1 (am_i 0)) := fun M1 S2 HM1 => m_isImage (S2.sI 187 1 (am_i 0)) (mH_mv HM1.1 B1 (fun b k k1 k2 k3 => am_I_ne1 (by omega))) B1 BZ (fun k hk => by rw [am_I_ne1 (by omega)]; exact HM1.2.2.2.2.2.2.1.1 k hk) bN.1 bN.2 595
  -- refused
  have no : ∀ M' : am_M, am_Sh L q M' → fr (pA 76) (am_sI M 2 2 (am_i 0)) M' → isImg (wX W) (wZ W) (wZ W 1 0) = 0 → am_cl 35 599 [.ref 2] M = am_bI (am_cl 37 598 [.ref 2, .int (am_i ((5 : Nat) : Int))] M') (fun _ M5 => am_tr (am_i 0) (some (some (.int (am_i 0)), M5)) none) → Call L xs 35 270 [] M b := by
    intro M' S' f' hi r
    have z' : cWz M' (tZ (wZ W)) := cWz_mv2 z1 (fun b k h => (f' b k (by unfold zC at h; unfold pA; omega)).1)
    rw [c_refuse S' z' (n := 5) (by decide), am_bI_p, am_tr_0] at r
    have f1 : fr (fun b k => (sC q b k ∨ zC b k) ∧ b < 187) M (am_sI M' 37 5 (am_i (tZ (wZ W) 7 5 + 1))) := fr_tr (fr_tr fr_22 (fr_mono f' (fun b k h => by unfold pA at h; exact ⟨Or.inl (sC_m (by omega)), by omega⟩))) fr_37
    have HM1 : mWo (am_sI M' 37 5 (am_i (tZ (wZ W) 7 5 + 1))) W := mWo_mv HM B1 (fr_mono f1 (fun b k h => sM_lt h.2))
    have S2 := S'.sI 37 5 (am_i (tZ (wZ W) 7 5 + 1))
    have hm := mim _ S2 HM1
    rw [hi] at hm
    have z2 := mWz_t HM1.2.2.2.2.2.2.1
    have k9 := z2.2.2.2.2.2.2.2.2.1 5 (by decide)
    have S3 := S2.sI 187 1 (am_i 0)
    refine Call_Z (Z := refZ (tZ (wZ W)) 5) (M2 := am_sI (am_sI (am_sI M' 37 5 (am_i (tZ (wZ W) 7 5 + 1))) 187 1 (am_i 0)) 189 5 (am_i (tZ (wZ W) 7 5 + 1))) (iv _) hq HC HM B h0 r f1 (cWz_7 z' 5) hq rfl ?_ (fr_tr fr_1871 fr_189) (mWz_7 z2 5) (zB_7 (zB_t BZ) 5) (S3.sI _ _ _)
    rw [t270, am_ob_p (kk_187 S2), am_ob_p (kk_187 S2), HM1.2.2.2.2.2.2.1.2.1]
    simp only [am_lt]
    rw [am_ob_p (kk_187 S3), hm, am_bI_p, am_br_ne (by omega) (by omega) (by omega) (by omega), if_pos rfl]
    simp (disch := omega) only [am_ob_p (kk_187 S3), rr_187_9 S3, am_ix_p (kk_189 S3), am_iw_p (kk_189 S3), am_gr_p, am_i_ix, Int.toNat_zero, Int.toNat_one, Int.toNat_natCast, Int.reduceToNat, am_lt, am_i_add, am_i_sub, am_i_mul, k9, am_tr_0]
  by_cases g1 : wZ W 1 0 = ((pb (wX W) + 3 * nP (wX W) + 1 : Nat) : Int)
  · have eN : wZ W 1 0 - 1 = ((pb (wX W) + 3 * nP (wX W) : Nat) : Int) := by omega
    have hck := c_check2 S1 (l := tpl (wZ W) (pb (wX W) + 3 * nP (wX W))) (by rw [tpl_len]; omega) (tpl_B BZ _) (fun k hk => by rw [tpl_len] at hk; rw [tpl_get (wZ W) hk]; exact HI1 k (by omega)) 598
    rw [tpl_len] at hck
    have bc := chkN_bd (tpl (wZ W) (pb (wX W) + 3 * nP (wX W))) (pb (wX W) + 3 * nP (wX W))
    have bz := BZ.1 (pb (wX W) + 3 * nP (wX W))
    have rb := c_tapeByte S1 HI1 (k := pb (wX W) + 3 * nP (wX W)) (by omega) 598
    obtain ⟨M2, r2, H2⟩ := c_readProfiles S1 hh HX1 B1 BZ HI1
    obtain ⟨M3, r3, H3⟩ := c_readPeople hh HX1 B1 BZ HI1 (rdQ_100 (wX W) (wZ W) (nP (wX W) + 1)) H2
    have h01 := okQ_01 (wX W) (wZ W) (ok0_01 (wZ W)) (nP (wX W) + 1)
    have h02 := okP_01 (wX W) (wZ W) (nP (wX W))
    have pre : am_cl 35 599 [.ref 2] M = if wZ W 0 (pb (wX W) + 3 * nP (wX W)) = chkN (tpl (wZ W) (pb (wX W) + 3 * nP (wX W))) (pb (wX W) + 3 * nP (wX W)) then (if okQ (wX W) (wZ W) (nP (wX W) + 1) (ok0 (wZ W)) = 0 then am_bI (am_cl 37 598 [.ref 2, .int (am_i ((5 : Nat) : Int))] M2) (fun _ M5 => am_tr (am_i 0) (some (some (.int (am_i 0)), M5)) none) else if okP (wX W) (wZ W) (nP (wX W)) = 0 then am_bI (am_cl 37 598 [.ref 2, .int (am_i ((5 : Nat) : Int))] M3) (fun _ M5 => am_tr (am_i 0) (some (some (.int (am_i 0)), M5)) none) else am_bV (am_cl 66 598 [.ref 64, .ref 76] M3) (fun M28 => am_ob M28 2 5 (am_bV (am_cl 44 598 [.ref 2] M28) (fun M29 => am_tr (am_i 1) (some (some (.int (am_i 1)), M29)) none)) none)) else am_bI (am_cl 37 598 [.ref 2, .int (am_i ((5 : Nat) : Int))] (am_sI M 2 2 (am_i 0))) (fun _ M5 => am_tr (am_i 0) (some (some (.int (am_i 0)), M5)) none) := by
      rw [t35, am_ob_p (kk_2 S), eT, am_bI_p, am_ob_p (kk_2 S1), rL, am_bI_p, am_br_ne (by omega) (by omega) (by omega) (by omega), if_pos g1, am_ob_p (kk_2 S1), rr_2_1 S1, am_gr_p, am_ob_p (kk_2 S1), am_i_sub, eN, hck, am_bI_p, am_ob_p (kk_2 S1), rb, am_bI_p, am_br_ne (by omega) (by omega) (by omega) (by omega)]
      by_cases g2 : wZ W 0 (pb (wX W) + 3 * nP (wX W)) = chkN (tpl (wZ W) (pb (wX W) + 3 * nP (wX W))) (pb (wX W) + 3 * nP (wX W))
      · rw [if_pos g2.symm, if_pos g2, am_ob_p (kk_2 S1), rr_2_4 S1, am_gr_p, am_ob_p (kk_75 S1), rr_75_1 S1, am_gr_p, am_ob_p (kk_2 S1), r2, am_bI_p, am_br_eq (by omega) (by omega) (by omega) (by omega)]
        by_cases g3 : okQ (wX W) (wZ W) (nP (wX W) + 1) (ok0 (wZ W)) = 0
        · rw [if_pos g3, if_pos g3, am_ob_p (kk_2 H2.1)]
          rfl
        · rw [if_neg g3, if_neg g3, am_ob_p (kk_2 H2.1), rr_2_4 H2.1, am_gr_p, am_ob_p (kk_75 H2.1), rr_75_1 H2.1, am_gr_p, am_ob_p (kk_2 H2.1), r3, am_bI_p, am_br_ne (by omega) (by omega) (by omega) (by omega)]
          by_cases g4 : okP (wX W) (wZ W) (nP (wX W)) = 0
          · rw [if_pos g4, if_pos g4, am_ob_p (kk_2 H3.1)]
            rfl
          · rw [if_neg g4, if_neg g4, am_ob_p (kk_2 H3.1), rr_2_3 H3.1, am_gr_p, am_ob_p (kk_63 H3.1), rr_63_1 H3.1, am_gr_p, am_ob_p (kk_2 H3.1), rr_2_4 H3.1, am_gr_p, am_ob_p (kk_75 H3.1), rr_75_1 H3.1, am_gr_p, am_ob_p (kk_64 H3.1)]
      · rw [if_neg (fun h => g2 h.symm), if_neg g2, am_ob_p (kk_2 S1)]
        rfl
    by_cases g2 : wZ W 0 (pb (wX W) + 3 * nP (wX W)) = chkN (tpl (wZ W) (pb (wX W) + 3 * nP (wX W))) (pb (wX W) + 3 * nP (wX W))
    · rw [if_pos g2] at pre
      by_cases g3 : okQ (wX W) (wZ W) (nP (wX W) + 1) (ok0 (wZ W)) = 0
      · rw [if_pos g3] at pre
        exact no M2 H2.1 H2.2.1 (if_neg (fun h => by have := h.2.2.1; omega)) pre
      · rw [if_neg g3] at pre
        by_cases g4 : okP (wX W) (wZ W) (nP (wX W)) = 0
        · rw [if_pos g4] at pre
          exact no M3 H3.1 H3.2.1 (if_neg (fun h => by have := h.2.2.2; omega)) pre
        · rw [if_neg g4] at pre
          have j3 : okQ (wX W) (wZ W) (nP (wX W) + 1) (ok0 (wZ W)) = 1 := by omega
          have j4 : okP (wX W) (wZ W) (nP (wX W)) = 1 := by omega
          have hi : isImg (wX W) (wZ W) (wZ W 1 0) = 1 := if_pos ⟨g1, g2, j3, j4⟩
          have BN := nA_B B1 BZ j3 j4
          have hv := nA_v BZ hP5 j4
          obtain ⟨M4, r4, S4, f4, HA4, HK4⟩ := c_copyFrom H3.1 isA_64 (show isA 76 from Or.inr (Or.inl rfl)) (by decide) H3.2.2.1 H3.2.2.2 597
          have HA4' : cA M4 64 (nA (wX W) (wZ W)) := HA4
          have S5 := S4.sI 2 7 (am_i 0)
          rw [r4, am_bV_p, am_ob_p (kk_2 S4), t44, am_ob_p (kk_2 S4), am_lt, am_bV_p, am_tr_1] at pre
          have f3 : fr (fun b k => aC q b k ∧ b < 187) M M4 := fr_tr (fr_mono fr_22 (fun b k h => ⟨h.1.elim Or.inl (fun h => Or.inr (Or.inl h)), h.2⟩)) (fr_tr (fr_mono H3.2.1 (fun b k h => by unfold pA at h; exact aC_63 (by omega) (by omega))) (fr_mono f4 (fun b k h => by unfold pA at h; exact aC_63 (by omega) (by omega))))
          have f5 : fr (fun b k => aC q b k ∧ b < 187) M (am_sI M4 2 7 (am_i 0)) := fr_tr f3 (fr_sI ⟨Or.inr (Or.inr (Or.inr ⟨rfl, Or.inr rfl⟩)), by decide⟩)
          have HM5 : mWo (am_sI M4 2 7 (am_i 0)) W := mWo_mv HM B1 (fr_mono f5 (fun b k h => sM_lt h.2))
          -- the reference
          have hm := mim _ S5 HM5
          rw [hi] at hm
          have SN := S5.sI 187 1 (am_i 0)
          have HIN : ∀ k, k < 1600 → am_I (am_sI (am_sI M4 2 7 (am_i 0)) 187 1 (am_i 0)) 188 k = am_i (wZ W 0 k) := fun k hk => by rw [am_I_ne1 (by omega)]; exact HM5.2.2.2.2.2.2.1.1 k hk
          have SN2 := (SN.sI 229 0 (am_i (tw (wZ W) 0))).sI 229 1 (am_i (wZ W 0 2))
          have HIN2 : ∀ k, k < 1600 → am_I (am_sI (am_sI (am_sI (am_sI M4 2 7 (am_i 0)) 187 1 (am_i 0)) 229 0 (am_i (tw (wZ W) 0))) 229 1 (am_i (wZ W 0 2))) 188 k = am_i (wZ W 0 k) := fun k hk => by rw [am_I_ne1 (by omega), am_I_ne1 (by omega)]; exact HIN k hk
          have HXN2 : mH (am_sI (am_sI (am_sI (am_sI M4 2 7 (am_i 0)) 187 1 (am_i 0)) 229 0 (am_i (tw (wZ W) 0))) 229 1 (am_i (wZ W 0 2))) (wX W) := mH_mv HM5.1 B1 (fun b k k1 k2 k3 => by rw [am_I_ne1 (by omega), am_I_ne1 (by omega), am_I_ne1 (by omega)])
          have HT : mTS (am_sI (am_sI (am_sI (am_sI M4 2 7 (am_i 0)) 187 1 (am_i 0)) 229 0 (am_i (tw (wZ W) 0))) 229 1 (am_i (wZ W 0 2))) (wA W) := ⟨fun q hq k hk => by rw [am_I_ne2 (by omega), am_I_ne2 (by omega), am_I_ne1 (by omega)]; exact HM5.2.2.2.1.2.2.1 q hq k hk, fun q hq k hk => by rw [am_I_ne2 (by omega), am_I_ne2 (by omega), am_I_ne1 (by omega)]; exact HM5.2.2.2.1.2.2.2.1 q hq k hk⟩
          obtain ⟨N3, v1', v4', q3, S6, f6, HT3⟩ := m_readQ (A := wA W) HXN2 B1 BZ HIN2 (nP (wX W) + 1) 0 (by omega) _ (.int (am_i (wZ W 1 0))) .null .null ⟨SN2, fr_rfl _ _, HT⟩
          obtain ⟨N4, q4, S7, f7, HP4⟩ := m_readP (L := L) (q := q) (M0 := N3) (mH_mv HXN2 B1 (fun b k k1 k2 k3 => (f6 b k (by omega)).1)) B1 BZ (fun k hk => by rw [(f6 188 k (by omega)).1]; exact HIN2 k hk) v1' v4' (nP (wX W)) 0 (by omega) N3 S6 (fr_rfl _ _) (fun p hp => absurd hp (by omega))
          have S8 := (S7.sI 229 96 (am_i 0)).sI 187 68 (am_i 0)
          -- cells at the end
          have c7 : ∀ k, k < 86 → am_I (am_sI (am_sI N4 229 96 (am_i 0)) 187 68 (am_i 0)) 229 k = am_I N3 229 k := fun k hk => by rw [am_I_ne1 (by omega), am_I_ne2 (by omega), (f7 229 k (by omega)).1]
          have r0 : ∀ i q k, ¬ (i = 0 ∧ q = 0 ∧ k = 0) → rd0 (wZ W) i q k = 0 := fun i q k h => uA_ne h
          have g0 : tw (wZ W) 0 ≤ 999 ∧ wZ W 0 2 < 24 := by
            have g1 := (okQ_1 j3).1
            unfold ok0 at g1
            split at g1
            · assumption
            · omega
          have bw := tw_bd BZ 0
          have b2 := BZ.1 2
          have v000 : nA (wX W) (wZ W) 0 0 0 = tw (wZ W) 0 * 24 + wZ W 0 2 := by
            rw [hv, if_neg (by omega), if_neg (by omega), if_neg (by omega), if_neg (by omega)]
            unfold rd0
            rw [uA_eq, if_pos (okQ_1 j3).1]
          have v100 : nA (wX W) (wZ W) 1 0 0 = bitsN (wX W) (wZ W) (nP (wX W)) := by rw [hv, if_pos ⟨rfl, rfl, rfl⟩]
          obtain ⟨⟨bb1, bb2⟩, -, bb3⟩ := bitsN_f BZ (nP (wX W)) hP5 j4
          have bap := aB_p BA
          have e86 : ∀ k, 86 ≤ k → k < 96 → (∀ p, p < nP (wX W) → k ≠ 86 + 2 * p ∧ k ≠ 87 + 2 * p) → am_I (am_sI (am_sI N4 229 96 (am_i 0)) 187 68 (am_i 0)) 229 k = am_I M4 229 k := fun k h1 h2 h3 => by
            have hk : 86 + 2 * nP (wX W) ≤ k := by
              rcases Nat.lt_or_ge k (86 + 2 * nP (wX W)) with g | g
              · have h4 := h3 ((k - 86) / 2) (by omega)
                omega
              · exact g
            rw [am_I_ne1 (by omega), am_I_ne2 (by omega), (f7 229 k (by omega)).1, (f6 229 k (by omega)).1, am_I_ne2 (by omega), am_I_ne2 (by omega), am_I_ne1 (by omega), am_I_ne1 (by omega)]
          have hmA : mA (am_sI (am_sI N4 229 96 (am_i 0)) 187 68 (am_i 0)) (nA (wX W) (wZ W)) := by
            refine ⟨?_, ?_, fun q hq k hk => ?_, fun q hq f hf => ?_, fun p hp => ?_, fun p hp => ?_⟩
            · rw [c7 0 (by decide), (f6 229 0 (by omega)).1, am_I_ne2 (by omega), am_I_same, v000, show (tw (wZ W) 0 * 24 + wZ W 0 2) / 24 = tw (wZ W) 0 by omega]
            · rw [c7 1 (by decide), (f6 229 1 (by omega)).1, am_I_same, v000, show (tw (wZ W) 0 * 24 + wZ W 0 2) % 24 = wZ W 0 2 by omega]
            · rw [c7 _ (by omega), HT3.1 q hq k hk, rdQ_v, hv, if_neg (show ¬ (2 = 1 ∧ q = 0 ∧ k = 0) by omega), if_neg (show ¬ (2 = 4 ∧ q < nP (wX W) ∧ k = 0) by omega)]
              by_cases e : q < nP (wX W) + 1 ∧ k < nK (wX W)
              · rw [if_pos ⟨rfl, e.1, e.2⟩, if_pos ⟨rfl, e.1, e.2⟩]
              · rw [if_neg (show ¬ (2 = 2 ∧ q < nP (wX W) + 1 ∧ k < nK (wX W)) from fun h => e h.2), if_neg (show ¬ (2 = 2 ∧ q < nP (wX W) + 1 ∧ k < nK (wX W)) from fun h => e h.2), if_neg (show ¬ (2 = 3 ∧ q < nP (wX W) + 1 ∧ k < nF (wX W)) by omega), if_neg (show ¬ (2 = 3 ∧ q < nP (wX W) + 1 ∧ k < nF (wX W)) by omega), r0 _ _ _ (by omega), BA.2.2.2.2.2.1 q hq k hk (by omega)]
            · rw [c7 _ (by omega), HT3.2 q hq f hf, rdQ_v, hv, if_neg (show ¬ (3 = 1 ∧ q = 0 ∧ f = 0) by omega), if_neg (show ¬ (3 = 4 ∧ q < nP (wX W) ∧ f = 0) by omega), if_neg (show ¬ (3 = 2 ∧ q < nP (wX W) + 1 ∧ f < nK (wX W)) by omega), if_neg (show ¬ (3 = 2 ∧ q < nP (wX W) + 1 ∧ f < nK (wX W)) by omega)]
              by_cases e : q < nP (wX W) + 1 ∧ f < nF (wX W)
              · rw [if_pos ⟨rfl, e.1, e.2⟩, if_pos ⟨rfl, e.1, e.2⟩]
              · rw [if_neg (show ¬ (3 = 3 ∧ q < nP (wX W) + 1 ∧ f < nF (wX W)) from fun h => e h.2), if_neg (show ¬ (3 = 3 ∧ q < nP (wX W) + 1 ∧ f < nF (wX W)) from fun h => e h.2), r0 _ _ _ (by omega), BA.2.2.2.2.2.2.1 q hq f hf (by omega)]
            · unfold prs
              rw [v100]
              by_cases e : p < nP (wX W)
              · rw [am_I_ne1 (by omega), am_I_ne2 (by omega), (HP4 p e).1, bb3 p e]
              · rw [e86 _ (by omega) (by omega) (fun p' hp' => by omega), prs_hi bb1 hP5 bb2 (by omega) hp]
                have h4 := HM5.2.2.2.1.2.2.2.2.1 p hp
                unfold prs at h4
                rw [prs_hi bap.1 hP5 bap.2 (by omega) hp, am_I_ne1 (by omega)] at h4
                exact h4
            · rw [hv, if_neg (by omega)]
              by_cases e : p < nP (wX W)
              · rw [am_I_ne1 (by omega), am_I_ne2 (by omega), (HP4 p e).2, if_pos ⟨rfl, e, rfl⟩]
              · rw [e86 _ (by omega) (by omega) (fun p' hp' => by omega), if_neg (by omega), if_neg (by omega), if_neg (by omega), r0 _ _ _ (by omega)]
                have h4 := HM5.2.2.2.1.2.2.2.2.2 p hp
                rw [BA.2.2.2.2.2.2.2 p hp (by omega), am_I_ne1 (by omega)] at h4
                exact h4
          have eE : ∀ b k, b ≠ 229 → ¬ (b = 187 ∧ (k = 1 ∨ k = 68)) → am_I (am_sI (am_sI N4 229 96 (am_i 0)) 187 68 (am_i 0)) b k = am_I (am_sI M4 2 7 (am_i 0)) b k := fun b k h1 h2 => by
            rw [am_I_sI, if_neg (by omega), am_I_ne1 h1, (f7 b k (by omega)).1, (f6 b k (by omega)).1, am_I_ne1 h1, am_I_ne1 h1, am_I_sI, if_neg (by omega)]
          have eL : ∀ b k, b ≠ 229 → am_L (am_sI (am_sI N4 229 96 (am_i 0)) 187 68 (am_i 0)) b k = am_L (am_sI M4 2 7 (am_i 0)) b k := fun b k h1 => by
            rw [am_L_sI', am_L_sI', (f7 b k (by omega)).2, (f6 b k (by omega)).2]
            rfl
          have fM : fr (fun b k => aM b k ∧ 187 ≤ b) (am_sI M4 2 7 (am_i 0)) (am_sI (am_sI N4 229 96 (am_i 0)) 187 68 (am_i 0)) := fun b k h => by
            have h1 : b ≠ 229 := fun g => h (aM_229 g)
            have h2 : ¬ (b = 187 ∧ (k = 1 ∨ k = 68)) := fun g => h ⟨by
              rcases g.2 with g2 | g2
              · exact Or.inr (Or.inl (Or.inr (Or.inr (Or.inr (Or.inr ⟨g.1, Or.inl g2⟩)))))
              · exact Or.inr (Or.inr (Or.inr (Or.inr ⟨g.1, Or.inr (Or.inl g2)⟩))), by omega⟩
            exact ⟨eE b k h1 h2, eL b k h1⟩
          refine Call_act (v := .int (am_i 1)) (A := nA (wX W) (wZ W)) (K := []) (P := []) (Z := tZ (wZ W)) (M1 := am_sI M4 2 7 (am_i 0)) (M2 := am_sI (am_sI N4 229 96 (am_i 0)) 187 68 (am_i 0)) (iv _) hq HC HM B h0 pre f5 (cA_mv HA4' (fun b k k1 k2 k3 => am_I_ne1 (by omega))) (cK_le (cK_mv HK4 (am_I_ne1 (by omega)) (fun k => am_I_ne1 (by omega))) (by omega)) ?_ ?_ hq rfl ?_ fM hmA ?_ ?_ ?_ ?_ BN (fun r hr => absurd hr (by simp)) (fun a ha => absurd ha (by simp)) (zB_t BZ) S8
          · obtain ⟨o, k1, k2, k3, k4, k5⟩ := HC.2.2.2.2.2.1
            refine ⟨o, k1, ?_, am_I_same _ _ _ _, by decide, fun j a hj => absurd hj (by simp)⟩
            rw [am_I_ne2 (by omega), (f4 2 6 (by unfold pA; omega)).1, (H3.2.1 2 6 (by unfold pA; omega)).1, am_I_ne2 (by omega)]
            exact k2
          · exact cWz_mv2 z1 (fun b k h => by
              rw [am_I_sI, if_neg (by unfold zC at h; omega), (f4 b k (by unfold zC at h; unfold pA; omega)).1, (H3.2.1 b k (by unfold zC at h; unfold pA; omega)).1])
          · rw [t270, am_ob_p (kk_187 S5), am_ob_p (kk_187 S5), HM5.2.2.2.2.2.2.1.2.1]
            simp only [am_lt]
            rw [am_ob_p (kk_187 SN), hm, am_bI_p, am_br_ne (by omega) (by omega) (by omega) (by omega), if_neg (by decide), am_ob_p (kk_187 SN), rr_187_54 SN, am_gr_p, am_ob_p (kk_187 SN), show am_cl 266 598 [.ref 187, .int (am_i 0)] (am_sI (am_sI M4 2 7 (am_i 0)) 187 1 (am_i 0)) = am_cl 266 598 [.ref 187, .int (am_i ((0 : Nat) : Int))] (am_sI (am_sI M4 2 7 (am_i 0)) 187 1 (am_i 0)) from rfl, m_twoAt SN HIN (k := 0) (by decide), am_bI_p]
            have SNa := SN.sI 229 0 (am_i (tw (wZ W) 0))
            have eb2 : am_I (am_sI (am_sI (am_sI M4 2 7 (am_i 0)) 187 1 (am_i 0)) 229 0 (am_i (tw (wZ W) 0))) 188 2 = am_i (wZ W 0 2) := by rw [am_I_ne1 (by omega)]; exact HIN 2 (by decide)
            rw [am_iw_p (kk_229 SN) (by omega) (by omega) (by omega) (by omega), am_i_ix (by omega) (by omega), Int.toNat_zero]
            rw [am_ob_p (kk_187 SNa), rr_187_54 SNa, am_gr_p, am_ob_p (kk_187 SNa), rr_187_0 SNa, am_gr_p, am_ix_p (kk_188 SNa) (by omega) (by omega) (by omega), am_iw_p (kk_229 SNa) (by omega) (by omega) (by omega) (by omega), am_i_ix (by omega) (by omega), am_i_ix (by omega) (by omega), Int.toNat_one, show (2 : Int).toNat = 2 from rfl, eb2]
            exact q3.trans q4
          · exact ⟨by rw [am_I_ne1 (by omega), am_I_same]; rfl, by decide, fun k hk => absurd hk (by show ¬ k < 0; omega)⟩
          · obtain ⟨w, k1, k2, k3, k4, k5⟩ := HM5.2.2.2.2.2.1
            exact ⟨w, k1, (eE 187 69 (by omega) (by omega)).trans k2, am_I_same _ _ _ _, by decide, fun j a hj => absurd hj (by simp)⟩
          · have z2 := mWz_t HM5.2.2.2.2.2.2.1
            refine mWz_mv2 z2 (fun b k h => ⟨?_, ?_⟩)
            · by_cases e : b = 187 ∧ k = 1
              · obtain ⟨rfl, rfl⟩ := e
                rw [am_I_ne2 (by omega), am_I_ne1 (by omega), (f7 187 1 (by omega)).1, (f6 187 1 (by omega)).1, am_I_ne1 (by omega), am_I_ne1 (by omega)]
              · rw [eE b k (by unfold zM at h; omega) (by unfold zM at h; omega), am_I_sI _ 187, if_neg e]
            · rw [eL b k (by unfold zM at h; omega)]; rfl
          · rw [eE 187 60 (by omega) (by omega)]; exact HM5.2.2.2.2.2.2.2.2
    · rw [if_neg g2] at pre
      exact no _ S1 (fr_rfl _ _) (if_neg (fun h => g2 h.2.1)) pre
  · refine no _ S1 (fr_rfl _ _) (if_neg (fun h => g1 h.1)) ?_
    rw [t35, am_ob_p (kk_2 S), eT, am_bI_p, am_ob_p (kk_2 S1), rL, am_bI_p, am_br_ne (by omega) (by omega) (by omega) (by omega), if_neg g1, am_ob_p (kk_2 S1)]
    rfl
