/-! on: the class reads all. -/
def ok0 (Z : Nat → Nat → Int) : Int := if tw Z 0 ≤ 999 ∧ Z 0 2 < 24 then 1 else 0
theorem ok0_01 (Z : Nat → Nat → Int) : ok0 Z = 0 ∨ ok0 Z = 1 := by unfold ok0; split; exact Or.inr rfl; exact Or.inl rfl
def rd0 (Z : Nat → Nat → Int) : am_A := uA azr 0 0 0 (if ok0 Z = 1 then tw Z 0 * 24 + Z 0 2 else 0)
theorem c_readProfiles {L : Nat} {q : am_Pq} {M0 : am_M} (S0 : am_Sh L q M0) (hh : isH q.2.2.1) {X : am_X} {Z : Nat → Nat → Int} (HX : cH M0 q.2.2.1 X) (B : hB X) (BZ : zB X Z) (HI : ∀ k, k < 1600 → am_I M0 30 k = am_i (Z 0 k)) :
    ∃ M', am_cl 62 598 [.ref 2, .ref 76] M0 = some (some (.int (am_i (okQ X Z (nP X + 1) (ok0 Z)))), M') ∧ cRd L q M0 M' (rdQ X Z (rd0 Z) (nP X + 1)) := by
  have hh' : q.2.2.1 = 4 ∨ q.2.2.1 = 38 := hh
  obtain ⟨hKK, hK6⟩ := hB_K B
  obtain ⟨hFF, hF8⟩ := hB_F B
  obtain ⟨hPP, hP5⟩ := hB_P B
  have key : ∀ m p : Nat, p + m = nP X + 1 → ∀ (M1 : am_M) (v2 v3 v7 : Value), cRd L q M0 M1 (rdQ X Z (rd0 Z) p) → ∃ M', am_ev 62 598 61 [.ref 2, .ref 76, v2, v3, .int (am_i (okQ X Z p (ok0 Z))), .int (am_i (pf X p : Int)), .int (am_i p), v7] [] M1 = some (some (.int (am_i (okQ X Z (nP X + 1) (ok0 Z)))), M') ∧ cRd L q M0 M' (rdQ X Z (rd0 Z) (nP X + 1)) := by
    intro m
    induction m with
    | zero =>
      intro p hp M1 v2 v3 v7 H1
      have : p = nP X + 1 := by omega
      subst this
      have S1 := H1.1
      have e2 : am_I M1 (q.2.2.1 + 1) 2 = am_i (X 0 2 0) := by rw [(H1.2.1 _ _ (by unfold pA; omega)).1]; exact HX.1 2 (by decide)
      refine ⟨M1, ?_, H1⟩
      rw [t62_61]
      simp (disch := omega) only [am_ob_p (kk_2 S1), am_ob_p (kk_3 S1), am_ob_p (kk_63 S1), am_ob_p (kk_64 S1), rr_63_0 S1, rr_63_1 S1, rr_64_2 S1, rr_64_3 S1, rr_64_4 S1, rr_64_5 S1, rr_2_0 S1, rr_2_1 S1, rr_2_3 S1, rr_2_4 S1, rr_2_5 S1, rr_2_8 S1, rr_2_10 S1, rr_2_12 S1, rr_2_13 S1, rr_2_14 S1, am_ix_p (kk_30 S1), am_iw_p (kk_30 S1), am_ix_p (kk_33 S1), am_iw_p (kk_33 S1), am_ix_p (kk_34 S1), am_iw_p (kk_34 S1), am_ix_p (kk_35 S1), am_iw_p (kk_35 S1), am_ix_p (kk_36 S1), am_iw_p (kk_36 S1), am_ix_p (kk_37 S1), am_iw_p (kk_37 S1), am_ix_p (kk_65 S1), am_iw_p (kk_65 S1), am_ix_p (kk_66 S1), am_iw_p (kk_66 S1), am_ix_p (kk_67 S1), am_iw_p (kk_67 S1), am_ix_p (kk_68 S1), am_iw_p (kk_68 S1), am_gr_p, am_ob_p (H_k0 S1 hh), am_ix_p (H_k1 S1 hh), am_iw_p (H_k1 S1 hh), am_ix_p (H_k6 S1 hh), am_iw_p (H_k6 S1 hh), am_ix_p (H_k16 S1 hh), am_iw_p (H_k16 S1 hh), am_ix_p (H_k17 S1 hh), am_iw_p (H_k17 S1 hh), am_ix_p (H_k24 S1 hh), am_iw_p (H_k24 S1 hh), H_r0_0 S1 hh, H_r0_1 S1 hh, H_r0_2 S1 hh, H_r0_3 S1 hh, H_r0_4 S1 hh, H_r0_5 S1 hh, H_r0_6 S1 hh, H_r0_15 S1 hh, H_r2 S1 hh, H_r7 S1 hh, H_r18 S1 hh, am_iq_p (H_k2 S1 hh), am_iq_p (H_k7 S1 hh), am_iq_p (H_k18 S1 hh), am_i_ix, Int.reduceToNat, e2, am_br_gt]
      rw [if_pos (by omega), am_tr_b (okQ_01 X Z (ok0_01 Z) _)]
    | succ m ih =>
      intro p hp M1 v2 v3 v7 H1
      have S1 := H1.1
      have e2 : am_I M1 (q.2.2.1 + 1) 2 = am_i (X 0 2 0) := by rw [(H1.2.1 _ _ (by unfold pA; omega)).1]; exact HX.1 2 (by decide)
      have h01 := okQ_01 X Z (ok0_01 Z) p
      obtain ⟨M2, v3', r2, H2⟩ := c_readT hh HX B BZ HI (p := p) (by omega) h01 v2 (nK X) 0 (by omega) M1 v3 H1
      obtain ⟨M3, v3'', v7', r3, H3⟩ := c_readS hh HX B BZ HI (p := p) (by omega) (okT_01 Z (pf X p) h01 (nK X)) v2 (nF X) 0 (by omega) M2 v3' H2
      obtain ⟨M4, r4, H4⟩ := ih (p + 1) (by omega) M3 v2 v3'' v7' H3
      refine ⟨M4, ?_, H4⟩
      rw [t62_61]
      simp (disch := omega) only [am_ob_p (kk_2 S1), am_ob_p (kk_3 S1), am_ob_p (kk_63 S1), am_ob_p (kk_64 S1), rr_63_0 S1, rr_63_1 S1, rr_64_2 S1, rr_64_3 S1, rr_64_4 S1, rr_64_5 S1, rr_2_0 S1, rr_2_1 S1, rr_2_3 S1, rr_2_4 S1, rr_2_5 S1, rr_2_8 S1, rr_2_10 S1, rr_2_12 S1, rr_2_13 S1, rr_2_14 S1, am_ix_p (kk_30 S1), am_iw_p (kk_30 S1), am_ix_p (kk_33 S1), am_iw_p (kk_33 S1), am_ix_p (kk_34 S1), am_iw_p (kk_34 S1), am_ix_p (kk_35 S1), am_iw_p (kk_35 S1), am_ix_p (kk_36 S1), am_iw_p (kk_36 S1), am_ix_p (kk_37 S1), am_iw_p (kk_37 S1), am_ix_p (kk_65 S1), am_iw_p (kk_65 S1), am_ix_p (kk_66 S1), am_iw_p (kk_66 S1), am_ix_p (kk_67 S1), am_iw_p (kk_67 S1), am_ix_p (kk_68 S1), am_iw_p (kk_68 S1), am_gr_p, am_ob_p (H_k0 S1 hh), am_ix_p (H_k1 S1 hh), am_iw_p (H_k1 S1 hh), am_ix_p (H_k6 S1 hh), am_iw_p (H_k6 S1 hh), am_ix_p (H_k16 S1 hh), am_iw_p (H_k16 S1 hh), am_ix_p (H_k17 S1 hh), am_iw_p (H_k17 S1 hh), am_ix_p (H_k24 S1 hh), am_iw_p (H_k24 S1 hh), H_r0_0 S1 hh, H_r0_1 S1 hh, H_r0_2 S1 hh, H_r0_3 S1 hh, H_r0_4 S1 hh, H_r0_5 S1 hh, H_r0_6 S1 hh, H_r0_15 S1 hh, H_r2 S1 hh, H_r7 S1 hh, H_r18 S1 hh, am_iq_p (H_k2 S1 hh), am_iq_p (H_k7 S1 hh), am_iq_p (H_k18 S1 hh), am_i_ix, Int.reduceToNat, e2, am_br_gt]
      rw [if_neg (by omega)]
      exact r2.trans (r3.trans r4)
  obtain ⟨M1, r1, S1, f1, HA1, HK1⟩ := c_clear S0 597
  have HI1 : ∀ k, k < 1600 → am_I M1 30 k = am_i (Z 0 k) := fun k hk => by rw [(f1 _ _ (by unfold pA; omega)).1]; exact HI k hk
  have rt := c_tapeTwo S1 HI1 (k := 0) (by decide) 596
  have rb := c_tapeByte S1 HI1 (k := 2) (by decide) 597
  have bw := tw_bd BZ 0
  have b2 := BZ.1 2
  have H2 : cRd L q M0 (am_sI M1 76 0 (am_i (if ok0 Z = 1 then tw Z 0 * 24 + Z 0 2 else 0))) (rdQ X Z (rd0 Z) 0) := ⟨S1.sI _ _ _, fr_tr f1 (fr_sI (Or.inl ⟨rfl, Or.inl rfl⟩)), cA_w0 HA1 _, cK_mv HK1 (am_I_ne2 (by omega)) (fun k => am_I_ne1 (by omega))⟩
  have go := key (nP X + 1) 0 (by omega) _ (.int (am_i (tw Z 0))) (.int (am_i (Z 0 2))) .null H2
  obtain ⟨M', r, hR⟩ := go
  rw [show pf X 0 = 3 by unfold pf; omega] at r
  refine ⟨M', ?_, hR⟩
  have e34 : ∀ f : Int, (f = ok0 Z) → am_ev 62 598 34 [.ref 2, .ref 76, .int (am_i (tw Z 0)), .int (am_i (Z 0 2)), .null, .null, .null, .null] [.int (am_i f)] M1 = some (some (.int (am_i (okQ X Z (nP X + 1) (ok0 Z)))), M') := by
    intro f hf
    have h01 := ok0_01 Z
    rw [t62_34, am_br_eq (by omega) (by omega) (by omega) (by omega), am_ob_p (kk_76 S1), am_ob_p (kk_76 S1)]
    by_cases g : f = 0
    · rw [if_pos g, am_lt]
      rw [if_neg (by omega : ¬ ok0 Z = 1), ← hf, g] at r
      rw [← hf, g]
      exact r
    · rw [if_neg g, am_lt, am_i_mul, am_i_add]
      rw [if_pos (by omega : ok0 Z = 1), ← hf] at r
      rw [← hf]
      exact r
  rw [t62, am_ob_p (kk_76 S0), r1, am_bV_p, am_ob_p (kk_2 S1), show (am_i 0) = am_i ((0 : Nat) : Int) from rfl, rt, am_bI_p, am_ob_p (kk_2 S1), show (am_i 2) = am_i ((2 : Nat) : Int) from rfl, rb, am_bI_p, am_br_gt (by omega) (by omega) (by omega) (by omega), am_br_ge (by omega) (by omega) (by omega) (by omega)]
  by_cases g : 999 < tw Z 0
  · rw [if_pos g]
    exact e34 0 (if_neg (by omega)).symm
  · rw [if_neg g]
    by_cases g2 : 24 ≤ Z 0 2
    · rw [if_pos g2]
      exact e34 0 (if_neg (by omega)).symm
    · rw [if_neg g2]
      exact e34 1 (if_pos (by omega)).symm
/-- people read -/
def pb (X : am_X) : Nat := pf X (nP X + 1)
def okP (X : am_X) (Z : Nat → Nat → Int) : Nat → Int
  | 0 => 1
  | n + 1 => if okP X Z n = 1 ∧ Z 0 (pb X + 3 * n) ≤ 1 ∧ tw Z (pb X + 3 * n + 1) ≤ 9999 then 1 else 0
theorem okP_01 (X : am_X) (Z : Nat → Nat → Int) : ∀ n, okP X Z n = 0 ∨ okP X Z n = 1
  | 0 => Or.inr rfl
  | n + 1 => by unfold okP; split; exact Or.inr rfl; exact Or.inl rfl
def orV (X : am_X) (Z : Nat → Nat → Int) : Nat → Int32
  | 0 => am_i 0
  | n + 1 => orV X Z n ||| (am_i (Z 0 (pb X + 3 * n)) <<< (am_i (n : Int) &&& 31))
def rdP (X : am_X) (Z : Nat → Nat → Int) (A : am_A) : Nat → am_A
  | 0 => A
  | n + 1 => uA (uA (rdP X Z A n) 1 0 0 (orV X Z (n + 1)).toInt) 4 n 0 (tw Z (pb X + 3 * n + 1))
theorem cA_x1 {M : am_M} {A : am_A} (H : cA M 76 A) (v : Int32) : cA (am_sI M 76 1 v) 76 (uA A 1 0 0 v.toInt) := by
  obtain ⟨h1, h2, h3, h4, h5⟩ := H
  refine ⟨?_, ?_, fun q' hq' k' hk' => ?_, fun q' hq' f' hf' => ?_, fun p' hp' => ?_⟩
  · rw [am_I_ne2 (by omega), uA_ne (by omega)]; exact h1
  · rw [am_I_same, uA_eq, am_i_of]
  · rw [am_I_ne1 (by omega), uA_ne (by omega)]; exact h3 q' hq' k' hk'
  · rw [am_I_ne1 (by omega), uA_ne (by omega)]; exact h4 q' hq' f' hf'
  · rw [am_I_ne1 (by omega), uA_ne (by omega)]; exact h5 p' hp'
theorem c_readPeople {L : Nat} {q : am_Pq} {M0 : am_M} (hh : isH q.2.2.1) {X : am_X} {Z : Nat → Nat → Int} (HX : cH M0 q.2.2.1 X) (B : hB X) (BZ : zB X Z) (HI : ∀ k, k < 1600 → am_I M0 30 k = am_i (Z 0 k)) {A : am_A} (hA : A 1 0 0 = 0) {M1 : am_M} (H1 : cRd L q M0 M1 A) :
    ∃ M', am_cl 63 598 [.ref 2, .ref 76, .int (am_i ((pb X + 3 * nP X : Nat) : Int))] M1 = some (some (.int (am_i (okP X Z (nP X)))), M') ∧ cRd L q M0 M' (rdP X Z A (nP X)) := by
  have hh' : q.2.2.1 = 4 ∨ q.2.2.1 = 38 := hh
  obtain ⟨hPP, hP5⟩ := hB_P B
  have hpb : pb X ≤ 3 + 20 * (nP X + 1) := pf_bd B (nP X + 1)
  have key : ∀ m n : Nat, n + m = nP X → ∀ (M2 : am_M) (v6 : Value), cRd L q M0 M2 (rdP X Z A n) → am_I M2 76 1 = orV X Z n → ∃ M', am_ev 63 598 19 [.ref 2, .ref 76, .int (am_i ((pb X + 3 * nP X : Nat) : Int)), .int (am_i (X 0 2 0)), .int (am_i (okP X Z n)), .int (am_i n), v6] [] M2 = some (some (.int (am_i (okP X Z (nP X)))), M') ∧ cRd L q M0 M' (rdP X Z A (nP X)) := by
    intro m
    induction m with
    | zero =>
      intro n hn M2 v6 H2 eO
      have : n = nP X := by omega
      subst this
      refine ⟨M2, ?_, H2⟩
      have h01 := okP_01 X Z (nP X)
      rw [t63_19, am_br_ge (by omega) (by omega) (by omega) (by omega), if_pos (by omega), am_tr_b h01]
    | succ m ih =>
      intro n hn M2 v6 H2 eO
      obtain ⟨S2, f2, HA2, HK2⟩ := H2
      have h01 := okP_01 X Z n
      have HI2 : ∀ k, k < 1600 → am_I M2 30 k = am_i (Z 0 k) := fun k hk => by rw [(f2 _ _ (by unfold pA; omega)).1]; exact HI k hk
      have ux : ((pb X + 3 * nP X : Nat) : Int) - 3 * (X 0 2 0 - (n : Int)) = ((pb X + 3 * n : Nat) : Int) := by omega
      have ux1 : ((pb X + 3 * n : Nat) : Int) + 1 = ((pb X + 3 * n + 1 : Nat) : Int) := by omega
      have b1 := BZ.1 (pb X + 3 * n)
      have bw := tw_bd BZ (pb X + 3 * n + 1)
      have r1 := c_tapeByte S2 HI2 (k := pb X + 3 * n) (by omega) 597
      have r2 := c_tapeTwo S2 HI2 (k := pb X + 3 * n + 1) (by omega) 596
      have eO' : am_I M2 76 1 ||| (am_i (Z 0 (pb X + 3 * n)) <<< (am_i (n : Int) &&& 31)) = orV X Z (n + 1) := by rw [eO]; rfl
      have S3 := S2.sI 76 1 (orV X Z (n + 1))
      have r3 := c_tapeTwo S3 (fun k hk => by rw [am_I_ne1 (by omega)]; exact HI2 k hk) (k := pb X + 3 * n + 1) (by omega) 596
      have S4 := S3.sI 79 n (am_i (tw Z (pb X + 3 * n + 1)))
      have H4 : cRd L q M0 (am_sI (am_sI M2 76 1 (orV X Z (n + 1))) 79 n (am_i (tw Z (pb X + 3 * n + 1)))) (rdP X Z A (n + 1)) := ⟨S4, fr_tr f2 (fr_tr (fr_sI (Or.inl ⟨rfl, Or.inr (Or.inl rfl)⟩)) (fr_sI (Or.inr ⟨by omega, by omega⟩))), cA_w4 (a := 76) (cA_x1 HA2 _) _, cK_mv HK2 (by rw [am_I_ne1 (by omega), am_I_ne2 (by omega)]) (fun k => by rw [am_I_ne1 (by omega), am_I_ne1 (by omega)])⟩
      have eO4 : am_I (am_sI (am_sI M2 76 1 (orV X Z (n + 1))) 79 n (am_i (tw Z (pb X + 3 * n + 1)))) 76 1 = orV X Z (n + 1) := by rw [am_I_ne1 (by omega), am_I_same]
      obtain ⟨M', r, hR⟩ := ih (n + 1) (by omega) _ (.int (am_i ((pb X + 3 * n : Nat) : Int))) H4 eO4
      refine ⟨M', ?_, hR⟩
      have e69 : ∀ f : Int, f = okP X Z (n + 1) → am_ev 63 598 69 [.ref 2, .ref 76, .int (am_i ((pb X + 3 * nP X : Nat) : Int)), .int (am_i (X 0 2 0)), .int (am_i (okP X Z n)), .int (am_i n), .int (am_i ((pb X + 3 * n : Nat) : Int))] [.int (am_i f)] M2 = some (some (.int (am_i (okP X Z (nP X)))), M') := by
        intro f hf
        rw [t63_69, am_ob_p (kk_76 S2), am_ob_p (kk_2 S2), r1, am_bI_p, am_ob_p (kk_76 S2), eO']
        simp only [am_lt]
        rw [am_ob_p (kk_76 S3), rr_76_4 S3, am_gr_p, am_ob_p (kk_2 S3), am_i_add, ux1, r3, am_bI_p, am_iw_p (kk_79 S3) (by omega) (by omega) (by omega) (by omega), am_i_ix (by omega) (by omega), Int.toNat_natCast, am_i_add, hf]
        exact r
      have ek : okP X Z (n + 1) = if okP X Z n = 1 ∧ Z 0 (pb X + 3 * n) ≤ 1 ∧ tw Z (pb X + 3 * n + 1) ≤ 9999 then 1 else 0 := rfl
      rw [t63_19, am_br_ge (by omega) (by omega) (by omega) (by omega), if_neg (by omega), am_br_eq (by omega) (by omega) (by omega) (by omega), am_i_sub, am_i_mul, am_i_sub, ux]
      rcases h01 with g | g
      · rw [if_p0 g]
        exact e69 0 (by rw [ek, if_neg (by omega)])
      · rw [if_p1 g, am_ob_p (kk_2 S2), r1, am_bI_p, am_br_gt (by omega) (by omega) (by omega) (by omega)]
        by_cases g2 : 1 < Z 0 (pb X + 3 * n)
        · rw [if_pos g2]
          exact e69 0 (by rw [ek, if_neg (by omega)])
        · rw [if_neg g2, am_ob_p (kk_2 S2), am_i_add, ux1, r2, am_bI_p, am_br_gt (by omega) (by omega) (by omega) (by omega)]
          by_cases g3 : 9999 < tw Z (pb X + 3 * n + 1)
          · rw [if_pos g3]
            exact e69 0 (by rw [ek, if_neg (by omega)])
          · rw [if_neg g3]
            exact e69 1 (by rw [ek, if_pos ⟨g, by omega, by omega⟩])
  have e2 : am_I M1 (q.2.2.1 + 1) 2 = am_i (X 0 2 0) := by rw [(H1.2.1 _ _ (by unfold pA; omega)).1]; exact HX.1 2 (by decide)
  obtain ⟨M', r, hR⟩ := key (nP X) 0 (by omega) M1 .null H1 (by rw [H1.2.2.1.2.1, hA]; rfl)
  refine ⟨M', ?_, hR⟩
  have S1 := H1.1
  rw [t63]
  simp (disch := omega) only [am_ob_p (kk_2 S1), am_ob_p (kk_3 S1), am_ob_p (kk_63 S1), am_ob_p (kk_64 S1), rr_63_0 S1, rr_63_1 S1, rr_64_2 S1, rr_64_3 S1, rr_64_4 S1, rr_64_5 S1, rr_2_0 S1, rr_2_1 S1, rr_2_3 S1, rr_2_4 S1, rr_2_5 S1, rr_2_8 S1, rr_2_10 S1, rr_2_12 S1, rr_2_13 S1, rr_2_14 S1, am_ix_p (kk_30 S1), am_iw_p (kk_30 S1), am_ix_p (kk_33 S1), am_iw_p (kk_33 S1), am_ix_p (kk_34 S1), am_iw_p (kk_34 S1), am_ix_p (kk_35 S1), am_iw_p (kk_35 S1), am_ix_p (kk_36 S1), am_iw_p (kk_36 S1), am_ix_p (kk_37 S1), am_iw_p (kk_37 S1), am_ix_p (kk_65 S1), am_iw_p (kk_65 S1), am_ix_p (kk_66 S1), am_iw_p (kk_66 S1), am_ix_p (kk_67 S1), am_iw_p (kk_67 S1), am_ix_p (kk_68 S1), am_iw_p (kk_68 S1), am_gr_p, am_ob_p (H_k0 S1 hh), am_ix_p (H_k1 S1 hh), am_iw_p (H_k1 S1 hh), am_ix_p (H_k6 S1 hh), am_iw_p (H_k6 S1 hh), am_ix_p (H_k16 S1 hh), am_iw_p (H_k16 S1 hh), am_ix_p (H_k17 S1 hh), am_iw_p (H_k17 S1 hh), am_ix_p (H_k24 S1 hh), am_iw_p (H_k24 S1 hh), H_r0_0 S1 hh, H_r0_1 S1 hh, H_r0_2 S1 hh, H_r0_3 S1 hh, H_r0_4 S1 hh, H_r0_5 S1 hh, H_r0_6 S1 hh, H_r0_15 S1 hh, H_r2 S1 hh, H_r7 S1 hh, H_r18 S1 hh, am_iq_p (H_k2 S1 hh), am_iq_p (H_k7 S1 hh), am_iq_p (H_k18 S1 hh), am_i_ix, Int.reduceToNat, e2]
  exact r
