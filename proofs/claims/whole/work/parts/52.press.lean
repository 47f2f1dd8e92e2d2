/-! press, hours, show, seed, undo. -/
theorem bflip_b : ∀ P : Fin 32, ∀ p : Fin 5, ∀ r : Fin 5, bflip P.val p.val / ((2 ^ r.val : Nat) : Int) % 2 = if r = p then 1 - (P.val : Int) / ((2 ^ p.val : Nat) : Int) % 2 else (P.val : Int) / ((2 ^ r.val : Nat) : Int) % 2 := by decide +kernel
theorem prs_flip {A : am_A} (h0 : 0 ≤ A 1 0 0) (h1 : A 1 0 0 < 32) {p r : Nat} (hp : p < 5) (hr : r < 5) : prs (aP A (bflip (A 1 0 0) p)) r = if r = p then 1 - prs A p else prs A r := by
  have h := bflip_b ⟨(A 1 0 0).toNat, by omega⟩ ⟨p, hp⟩ ⟨r, hr⟩
  have e : (((A 1 0 0).toNat : Nat) : Int) = A 1 0 0 := by omega
  simp only [e, Fin.mk.injEq] at h
  have e1 : aP A (bflip (A 1 0 0) p) 1 0 0 = bflip (A 1 0 0) p := uA_eq _ _ _ _ _
  unfold prs
  rw [e1]
  exact h
theorem cA_aP {M : am_M} {A : am_A} (H : cA M 64 A) (P : Int) : cA (am_sI M 64 1 (am_i P)) 64 (aP A P) := by
  obtain ⟨h1, h2, h3, h4, h5⟩ := H
  unfold aP
  refine ⟨?_, ?_, fun q' hq' k hk => ?_, fun q' hq' f' hf' => ?_, fun p' hp' => ?_⟩
  · rw [am_I_ne2 (by omega), uA_ne (by omega)]; exact h1
  · rw [am_I_same, uA_eq]
  · rw [am_I_ne1 (by omega), uA_ne (by omega)]; exact h3 q' hq' k hk
  · rw [am_I_ne1 (by omega), uA_ne (by omega)]; exact h4 q' hq' f' hf'
  · rw [am_I_ne1 (by omega), uA_ne (by omega)]; exact h5 p' hp'
theorem mA_flip {M : am_M} {A : am_A} (H : mA M A) (h0 : 0 ≤ A 1 0 0) (h1 : A 1 0 0 < 32) {p : Nat} (hp : p < 5) : mA (am_sI M 229 (86 + 2 * p) (am_i (1 - prs A p))) (aP A (bflip (A 1 0 0) p)) := by
  obtain ⟨k1, k2, k3, k4, k5, k6⟩ := H
  refine ⟨?_, ?_, fun q' hq' k hk => ?_, fun q' hq' f' hf' => ?_, fun r hr => ?_, fun r hr => ?_⟩
  · rw [am_I_ne2 (by omega), aP_t]; exact k1
  · rw [am_I_ne2 (by omega), aP_t]; exact k2
  · rw [am_I_ne2 (by omega)]; unfold aP; rw [uA_ne (by omega)]; exact k3 q' hq' k hk
  · rw [am_I_ne2 (by omega)]; unfold aP; rw [uA_ne (by omega)]; exact k4 q' hq' f' hf'
  · rw [prs_flip h0 h1 hp hr]
    by_cases g : r = p
    · subst g; rw [am_I_same, if_pos rfl]
    · rw [am_I_ne2 (by omega), if_neg g]; exact k5 r hr
  · rw [am_I_ne2 (by omega)]; unfold aP; rw [uA_ne (by omega)]; exact k6 r hr
theorem pP_s {q : am_Pq} {b k : Nat} (hq : qok q) (h : pP b k) : aC q b k ∧ b < 187 := by
  obtain ⟨g1, -, -⟩ := hq
  unfold pP at h
  unfold aC
  rcases h with h | h
  · exact ⟨Or.inr (Or.inr (Or.inr h)), by omega⟩
  · exact ⟨Or.inr (Or.inr (Or.inl ⟨by omega, h.2⟩)), h.2⟩
theorem pQ_s {b k : Nat} (h : pQ b k) : aM b k ∧ 187 ≤ b := by
  unfold pQ at h
  unfold aM
  rcases h with h | h
  · exact ⟨Or.inr (Or.inr (Or.inr (Or.inl h))), by omega⟩
  · exact ⟨Or.inr (Or.inr (Or.inr (Or.inr ⟨h.1, by omega⟩))), by omega⟩
theorem aC_63 {q : am_Pq} {b k : Nat} (h : 63 ≤ b) (h2 : b < 187) : aC q b k ∧ b < 187 := ⟨Or.inr (Or.inr (Or.inl ⟨h, h2⟩)), h2⟩
theorem aM_229 {b k : Nat} (h : b = 229) : aM b k ∧ 187 ≤ b := ⟨Or.inr (Or.inr (Or.inl h)), by omega⟩
theorem m_refuse2 {L : Nat} {q : am_Pq} {M : am_M} (S : am_Sh L q M) {Z : Nat → Nat → Int} (H : mWz M Z) (v1 v2 : Value) : am_ev 224 599 36 [.ref 187, v1, v2] [] M = some (some (.int (am_i 0)), am_sI M 189 2 (am_i (Z 7 2 + 1))) := by
  have k9 := H.2.2.2.2.2.2.2.2.1 2 (by decide)
  rw [t224_36]
  simp (disch := omega) only [am_ob_p (kk_187 S), rr_187_9 S, am_ix_p (kk_189 S), am_iw_p (kk_189 S), am_gr_p, am_i_ix, Int.toNat_zero, Int.toNat_one, Int.toNat_natCast, Int.reduceToNat, am_lt, am_i_add, am_i_sub, am_i_mul, k9, am_tr_0]
theorem call_press {L : Nat} {xs : Nat → Int32} {M : am_M} {W : am_Wo} {b : Nat} (R : Rel L xs M W b) (x y : Int32) : Call L xs 26 224 [.int x, .int y] M b := by
  obtain ⟨q, hq, S, HC, HM, B, h0⟩ := R
  obtain ⟨z, rfl, z1, z2⟩ := int_of x
  obtain ⟨w, rfl, w1, w2⟩ := int_of y
  have hh := qok_h hq
  have B1 := B.1
  have BA := B.2.2.2.1
  have hP5 := hB_P B1
  have b0 := is1_01 (wX W) 2 z
  have r1 := c_isP S hh HC.1 B1 z1 z2 598
  have er := c_refuse S HC.2.2.2.2.2.2.1 (n := 2) (by decide) 598
  have e2 : am_I M 64 1 = am_i (wA W 1 0 0) := HC.2.2.2.1.2.1
  have hin := isin_01 w 0 1
  have bp := aB_p5 B1 BA
  by_cases g : is1 (wX W) 2 z = 1
  · obtain ⟨p, rfl, hp⟩ := is1_ex g
    have hpP : p < nP (wX W) := by omega
    have hp5 : p < 5 := by omega
    have h01 := prs_01 (wA W) p
    have bapb := aB_p BA
    obtain ⟨-, -, k3, -, -, k6⟩ := bit_q (P := wA W 1 0 0) (n := nP (wX W)) (p := p) bapb.1 hP5.2 bapb.2 hpP
    have ebit := bit_p (P := wA W 1 0 0) bp.1 bp.2 hp5
    have eprs : wA W 1 0 0 / ((2 ^ p : Nat) : Int) % 2 = prs (wA W) p := rfl
    by_cases g2 : 0 ≤ w ∧ w ≤ 1
    · have hi1 : isin w 0 1 = 1 := if_pos g2
      by_cases g3 : prs (wA W) p = w
      · refine Call_no 2 (v := .int (am_i 0)) (iv _) hq S HC HM B h0 ?_ (fun M1 S1 HM1 => ?_)
        · rw [t26, am_ob_p (kk_2 S), r1, am_bI_p, am_br_eq (by omega) (by omega) (by omega) (by omega), if_p1 g, am_br_lt (by omega) (by omega) (by omega) (by omega), if_neg (by omega), am_br_gt (by omega) (by omega) (by omega) (by omega), if_neg (by omega)]
          simp (disch := omega) only [am_ob_p (kk_2 S), am_ob_p (kk_3 S), am_ob_p (kk_63 S), am_ob_p (kk_64 S), rr_63_0 S, rr_63_1 S, rr_64_2 S, rr_64_3 S, rr_64_4 S, rr_64_5 S, rr_2_0 S, rr_2_1 S, rr_2_3 S, rr_2_4 S, rr_2_5 S, rr_2_8 S, rr_2_10 S, rr_2_12 S, rr_2_13 S, rr_2_14 S, am_ix_p (kk_30 S), am_iw_p (kk_30 S), am_ix_p (kk_33 S), am_iw_p (kk_33 S), am_ix_p (kk_34 S), am_iw_p (kk_34 S), am_ix_p (kk_35 S), am_iw_p (kk_35 S), am_ix_p (kk_36 S), am_iw_p (kk_36 S), am_ix_p (kk_37 S), am_iw_p (kk_37 S), am_ix_p (kk_65 S), am_iw_p (kk_65 S), am_ix_p (kk_66 S), am_iw_p (kk_66 S), am_ix_p (kk_67 S), am_iw_p (kk_67 S), am_ix_p (kk_68 S), am_iw_p (kk_68 S), am_gr_p, e2, ebit, eprs, am_br_ne]
          rw [if_pos g3, show (am_i 2) = am_i ((2 : Nat) : Int) from rfl, er, am_bI_p, am_tr_0]
        · rw [t224, am_ob_p (kk_187 S1), m_isPerson S1 HM1.1 B1 z1 z2, am_bI_p, am_br_eq (by omega) (by omega) (by omega) (by omega), if_p1 g, am_i2l (by omega) (by omega), m_isIn (by omega) (by omega) (by omega) (by omega) (by omega) (by omega), am_bI_p, hi1, am_br_eq (by omega) (by omega) (by omega) (by omega), if_neg (by decide), am_ob_p (kk_187 S1), m_doesPress S1 HM1.2.2.2.1 hp5, am_bI_p, am_br_ne (by omega) (by omega) (by omega) (by omega)]
          by_cases g4 : w = 1
          · rw [if_pos g4, t224_33, am_br_ne (by omega) (by omega) (by omega) (by omega), if_pos (by omega)]
            exact m_refuse2 S1 HM1.2.2.2.2.2.2.1 _ _
          · rw [if_neg g4, t224_33, am_br_ne (by omega) (by omega) (by omega) (by omega), if_pos (by omega)]
            exact m_refuse2 S1 HM1.2.2.2.2.2.2.1 _ _
      · have hw : w = 1 - prs (wA W) p := by omega
        obtain ⟨M1, s1, S1, f1, HP1⟩ := c_remember S HC.2.2.2.1 HC.2.2.2.2.1 HC.2.2.2.2.2.1 596
        have HA1 : cA M1 64 (wA W) := cA_mv HC.2.2.2.1 (fun b k k1 k2 k3 => (f1 b k (by unfold pP; omega)).1)
        have e21 : am_I M1 64 1 = am_i (wA W 1 0 0) := HA1.2.1
        have f1' : fr (fun b k => aC q b k ∧ b < 187) M (am_sI M1 64 1 (am_i (bflip (wA W 1 0 0) p))) := fr_tr (fr_mono f1 (fun b k h => pP_s hq h)) (fr_sI (aC_63 (by decide) (by decide)))
        have HM1 : mWo (am_sI M1 64 1 (am_i (bflip (wA W 1 0 0) p))) W := mWo_mv HM B1 (fr_mono f1' (fun b k h => sM_lt h.2))
        have S1' := S1.sI 64 1 (am_i (bflip (wA W 1 0 0) p))
        obtain ⟨M2, s2, S2, f2, HP2⟩ := m_keeps S1' HM1.2.2.2.1 HM1.2.2.2.2.1 HM1.2.2.2.2.2.1 598
        have HA2 : mA M2 (wA W) := mA_mv HM1.2.2.2.1 (fun k hk => (f2 229 k (by unfold pQ; omega)).1)
        have f2' : fr (fun b k => aM b k ∧ 187 ≤ b) (am_sI M1 64 1 (am_i (bflip (wA W 1 0 0) p))) (am_sI M2 229 (86 + 2 * p) (am_i (1 - prs (wA W) p))) := fr_tr (fr_mono f2 (fun b k h => pQ_s h)) (fr_sI (aM_229 rfl))
        have u : (86 + 2 * (p : Int)).toNat = 86 + 2 * p := by omega
        refine Call_act (v := .int (am_i 1)) (A := aP (wA W) (bflip (wA W 1 0 0) p)) (K := wK W) (P := actP (wA W) (wK W) (wP W)) (Z := wZ W) (iv _) hq HC HM B h0 (M1 := am_sI M1 64 1 (am_i (bflip (wA W 1 0 0) p))) (M2 := am_sI M2 229 (86 + 2 * p) (am_i (1 - prs (wA W) p))) ?_ f1' (cA_aP HA1 _) ?_ ?_ ?_ hq rfl ?_ f2' (mA_flip HA2 bp.1 bp.2 hp5) ?_ ?_ ?_ ?_ (aB_aP BA k6.1 k6.2) B.2.2.2.2.1 (actP_B B) B.2.2.2.2.2.2 (S2.sI _ _ _)
        · rw [t26, am_ob_p (kk_2 S), r1, am_bI_p, am_br_eq (by omega) (by omega) (by omega) (by omega), if_p1 g, am_br_lt (by omega) (by omega) (by omega) (by omega), if_neg (by omega), am_br_gt (by omega) (by omega) (by omega) (by omega), if_neg (by omega)]
          simp (disch := omega) only [am_ob_p (kk_2 S), am_ob_p (kk_3 S), am_ob_p (kk_63 S), am_ob_p (kk_64 S), rr_63_0 S, rr_63_1 S, rr_64_2 S, rr_64_3 S, rr_64_4 S, rr_64_5 S, rr_2_0 S, rr_2_1 S, rr_2_3 S, rr_2_4 S, rr_2_5 S, rr_2_8 S, rr_2_10 S, rr_2_12 S, rr_2_13 S, rr_2_14 S, am_ix_p (kk_30 S), am_iw_p (kk_30 S), am_ix_p (kk_33 S), am_iw_p (kk_33 S), am_ix_p (kk_34 S), am_iw_p (kk_34 S), am_ix_p (kk_35 S), am_iw_p (kk_35 S), am_ix_p (kk_36 S), am_iw_p (kk_36 S), am_ix_p (kk_37 S), am_iw_p (kk_37 S), am_ix_p (kk_65 S), am_iw_p (kk_65 S), am_ix_p (kk_66 S), am_iw_p (kk_66 S), am_ix_p (kk_67 S), am_iw_p (kk_67 S), am_ix_p (kk_68 S), am_iw_p (kk_68 S), am_gr_p, e2, ebit, eprs, am_br_ne]
          rw [if_neg g3, s1, am_bV_p]
          simp (disch := omega) only [am_ob_p (kk_2 S1), am_ob_p (kk_3 S1), am_ob_p (kk_63 S1), am_ob_p (kk_64 S1), rr_63_0 S1, rr_63_1 S1, rr_64_2 S1, rr_64_3 S1, rr_64_4 S1, rr_64_5 S1, rr_2_0 S1, rr_2_1 S1, rr_2_3 S1, rr_2_4 S1, rr_2_5 S1, rr_2_8 S1, rr_2_10 S1, rr_2_12 S1, rr_2_13 S1, rr_2_14 S1, am_ix_p (kk_30 S1), am_iw_p (kk_30 S1), am_ix_p (kk_33 S1), am_iw_p (kk_33 S1), am_ix_p (kk_34 S1), am_iw_p (kk_34 S1), am_ix_p (kk_35 S1), am_iw_p (kk_35 S1), am_ix_p (kk_36 S1), am_iw_p (kk_36 S1), am_ix_p (kk_37 S1), am_iw_p (kk_37 S1), am_ix_p (kk_65 S1), am_iw_p (kk_65 S1), am_ix_p (kk_66 S1), am_iw_p (kk_66 S1), am_ix_p (kk_67 S1), am_iw_p (kk_67 S1), am_ix_p (kk_68 S1), am_iw_p (kk_68 S1), am_gr_p, e21, k3, am_lt, am_tr_1]
        · exact cK_le (cK_mv HC.2.2.2.2.1 (by rw [am_I_ne2 (by omega)]; exact (f1 64 6 (by unfold pP; omega)).1) (fun k => by rw [am_I_ne1 (by omega)]; exact (f1 68 k (by unfold pP; omega)).1)) (by omega)
        · exact cWp_le (cWp_mv HP1 (fun b k h => am_I_ne1 (by omega))) (by omega)
        · exact cWz_mv2 HC.2.2.2.2.2.2.1 (fun b k h => by rw [am_I_ne1 (by unfold zC at h; omega)]; exact (f1 b k (by unfold zC at h; unfold pP; omega)).1)
        · rw [t224, am_ob_p (kk_187 S1'), m_isPerson S1' HM1.1 B1 z1 z2, am_bI_p, am_br_eq (by omega) (by omega) (by omega) (by omega), if_p1 g, am_i2l (by omega) (by omega), m_isIn (by omega) (by omega) (by omega) (by omega) (by omega) (by omega), am_bI_p, hi1, am_br_eq (by omega) (by omega) (by omega) (by omega), if_neg (by decide), am_ob_p (kk_187 S1'), m_doesPress S1' HM1.2.2.2.1 hp5, am_bI_p, am_br_ne (by omega) (by omega) (by omega) (by omega)]
          have e33 : ∀ y : Int, y = w → am_ev 224 599 33 [.ref 187, .int (am_i p), .int (am_i w)] [.int (am_i y), .int (am_i (prs (wA W) p))] (am_sI M1 64 1 (am_i (bflip (wA W 1 0 0) p))) = some (some (.int (am_i 1)), am_sI M2 229 (86 + 2 * p) (am_i (1 - prs (wA W) p))) := by
            intro y hy
            rw [t224_33, am_br_ne (by omega) (by omega) (by omega) (by omega), if_neg (by omega), am_ob_p (kk_187 S1'), s2, am_bV_p]
            simp (disch := omega) only [am_ob_p (kk_187 S2), rr_187_54 S2, am_iw_p (kk_229 S2), am_gr_p, am_i_ix, Int.toNat_zero, Int.toNat_one, Int.toNat_natCast, Int.reduceToNat, am_lt, am_i_add, am_i_sub, am_i_mul, u, am_tr_1]
            rw [hw]
          by_cases g4 : w = 1
          · rw [if_pos g4]; exact e33 1 g4.symm
          · rw [if_neg g4]; exact e33 0 (by omega)
        · exact mK_mv HM1.2.2.2.2.1 (fun k hk => by rw [am_I_ne2 (by omega)]; exact (f2 229 k (by unfold pQ; omega)).1)
        · exact mWp_mv HP2 (fun b k h => am_I_ne1 (by omega))
        · exact mWz_mv2 HM1.2.2.2.2.2.2.1 (fun b k h => by
            have := f2 b k (by unfold zM at h; unfold pQ; omega)
            exact ⟨by rw [am_I_ne1 (by unfold zM at h; omega)]; exact this.1, this.2⟩)
        · rw [am_I_ne1 (by omega), (f2 187 60 (by unfold pQ; omega)).1]
          exact HM1.2.2.2.2.2.2.2.2
    · have hi0 : isin w 0 1 = 0 := if_neg g2
      refine Call_no 2 (v := .int (am_i 0)) (iv _) hq S HC HM B h0 ?_ (fun M1 S1 HM1 => ?_)
      · rw [t26, am_ob_p (kk_2 S), r1, am_bI_p, am_br_eq (by omega) (by omega) (by omega) (by omega), if_p1 g, am_ob_p (kk_2 S), show (am_i 2) = am_i ((2 : Nat) : Int) from rfl, er, am_bI_p, am_tr_0, am_br_lt (by omega) (by omega) (by omega) (by omega)]
        by_cases g4 : w < 0
        · rw [if_pos g4]
        · rw [if_neg g4, am_br_gt (by omega) (by omega) (by omega) (by omega), if_pos (by omega)]
      · rw [t224, am_ob_p (kk_187 S1), m_isPerson S1 HM1.1 B1 z1 z2, am_bI_p, am_br_eq (by omega) (by omega) (by omega) (by omega), if_p1 g, am_i2l (by omega) (by omega), m_isIn (by omega) (by omega) (by omega) (by omega) (by omega) (by omega), am_bI_p, hi0, am_br_eq (by omega) (by omega) (by omega) (by omega), if_pos rfl]
        exact m_refuse2 S1 HM1.2.2.2.2.2.2.1 _ _
  · have g' := is1_0 g
    refine Call_no 2 (v := .int (am_i 0)) (iv _) hq S HC HM B h0 ?_ (fun M1 S1 HM1 => ?_)
    · rw [t26, am_ob_p (kk_2 S), r1, am_bI_p, am_br_eq (by omega) (by omega) (by omega) (by omega), if_p0 g', am_ob_p (kk_2 S), show (am_i 2) = am_i ((2 : Nat) : Int) from rfl, er, am_bI_p, am_tr_0]
    · rw [t224, am_ob_p (kk_187 S1), m_isPerson S1 HM1.1 B1 z1 z2, am_bI_p, am_br_eq (by omega) (by omega) (by omega) (by omega), if_p0 g']
      exact m_refuse2 S1 HM1.2.2.2.2.2.2.1 _ _
