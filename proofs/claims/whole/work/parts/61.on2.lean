/-! on: the class reads profiles. -/
def rdT (X : am_X) (Z : Nat → Nat → Int) (q : Nat) (A : am_A) : Nat → am_A
  | 0 => A
  | n + 1 => uA (rdT X Z q A n) 2 q n (tw Z (pf X q + 2 * n))
def rdS (X : am_X) (Z : Nat → Nat → Int) (q : Nat) (A : am_A) : Nat → am_A
  | 0 => A
  | n + 1 => uA (rdS X Z q A n) 3 q n (Z 0 (pf X q + 2 * nK X + n))
def rdQ (X : am_X) (Z : Nat → Nat → Int) (A : am_A) : Nat → am_A
  | 0 => A
  | n + 1 => rdS X Z n (rdT X Z n (rdQ X Z A n) (nK X)) (nF X)
theorem cA_x2 {M : am_M} {A : am_A} (H : cA M 76 A) {q k : Nat} (hk : k < 6) (v : Int) : cA (am_sI M 77 (6 * q + k) (am_i v)) 76 (uA A 2 q k v) := by
  obtain ⟨h1, h2, h3, h4, h5⟩ := H
  refine ⟨?_, ?_, fun q' hq' k' hk' => ?_, fun q' hq' f' hf' => ?_, fun p' hp' => ?_⟩
  · rw [am_I_ne1 (by omega), uA_ne (by omega)]; exact h1
  · rw [am_I_ne1 (by omega), uA_ne (by omega)]; exact h2
  · by_cases g : q' = q ∧ k' = k
    · obtain ⟨rfl, rfl⟩ := g
      rw [am_I_same, uA_eq]
    · rw [am_I_ne2 (by omega), uA_ne (by omega)]; exact h3 q' hq' k' hk'
  · rw [am_I_ne1 (by omega), uA_ne (by omega)]; exact h4 q' hq' f' hf'
  · rw [am_I_ne1 (by omega), uA_ne (by omega)]; exact h5 p' hp'
theorem cA_x3 {M : am_M} {A : am_A} (H : cA M 76 A) {q k : Nat} (hk : k < 8) (v : Int) : cA (am_sI M 78 (8 * q + k) (am_i v)) 76 (uA A 3 q k v) := by
  obtain ⟨h1, h2, h3, h4, h5⟩ := H
  refine ⟨?_, ?_, fun q' hq' k' hk' => ?_, fun q' hq' f' hf' => ?_, fun p' hp' => ?_⟩
  · rw [am_I_ne1 (by omega), uA_ne (by omega)]; exact h1
  · rw [am_I_ne1 (by omega), uA_ne (by omega)]; exact h2
  · rw [am_I_ne1 (by omega), uA_ne (by omega)]; exact h3 q' hq' k' hk'
  · by_cases g : q' = q ∧ f' = k
    · obtain ⟨rfl, rfl⟩ := g
      rw [am_I_same, uA_eq]
    · rw [am_I_ne2 (by omega), uA_ne (by omega)]; exact h4 q' hq' f' hf'
  · rw [am_I_ne1 (by omega), uA_ne (by omega)]; exact h5 p' hp'
/-- while it is read -/
def cRd (L : Nat) (q : am_Pq) (M0 M : am_M) (A : am_A) : Prop := am_Sh L q M ∧ fr (pA 76) M0 M ∧ cA M 76 A ∧ cK M 76 [] 0
theorem c_readT {L : Nat} {q : am_Pq} {M0 : am_M} (hh : isH q.2.2.1) {X : am_X} {Z : Nat → Nat → Int} (HX : cH M0 q.2.2.1 X) (B : hB X) (BZ : zB X Z) (HI : ∀ k, k < 1600 → am_I M0 30 k = am_i (Z 0 k)) {p : Nat} (hp : p ≤ nP X) {A : am_A} {fl : Int} (hfl : fl = 0 ∨ fl = 1) (v2 : Value) :
    ∀ m n : Nat, n + m = nK X → ∀ (M : am_M) (v3 : Value), cRd L q M0 M (rdT X Z p A n) → ∃ M' v3', am_ev 62 598 81 [.ref 2, .ref 76, v2, v3, .int (am_i (okT Z (pf X p) n fl)), .int (am_i ((pf X p + 2 * n : Nat) : Int)), .int (am_i p), .int (am_i n)] [] M = am_ev 62 598 153 [.ref 2, .ref 76, v2, v3', .int (am_i (okT Z (pf X p) (nK X) fl)), .int (am_i ((pf X p + 2 * nK X : Nat) : Int)), .int (am_i p), .int (am_i ((0 : Nat) : Int))] [] M' ∧ cRd L q M0 M' (rdT X Z p A (nK X)) := by
  have hh' : q.2.2.1 = 4 ∨ q.2.2.1 = 38 := hh
  obtain ⟨hKK, hK6⟩ := hB_K B
  obtain ⟨hFF, hF8⟩ := hB_F B
  obtain ⟨hPP, hP5⟩ := hB_P B
  have hpf := pf_bd B p
  intro m
  induction m with
  | zero =>
    intro n hn M v3 H
    have : n = nK X := by omega
    subst this
    have S := H.1
    have e0 : am_I M (q.2.2.1 + 1) 0 = am_i (X 0 0 0) := by rw [(H.2.1 _ _ (by unfold pA; omega)).1]; exact HX.1 0 (by decide)
    refine ⟨M, v3, ?_, H⟩
    rw [t62_81]
    simp (disch := omega) only [am_ob_p (kk_2 S), am_ob_p (kk_3 S), am_ob_p (kk_63 S), am_ob_p (kk_64 S), rr_63_0 S, rr_63_1 S, rr_64_2 S, rr_64_3 S, rr_64_4 S, rr_64_5 S, rr_2_0 S, rr_2_1 S, rr_2_3 S, rr_2_4 S, rr_2_5 S, rr_2_8 S, rr_2_10 S, rr_2_12 S, rr_2_13 S, rr_2_14 S, am_ix_p (kk_30 S), am_iw_p (kk_30 S), am_ix_p (kk_33 S), am_iw_p (kk_33 S), am_ix_p (kk_34 S), am_iw_p (kk_34 S), am_ix_p (kk_35 S), am_iw_p (kk_35 S), am_ix_p (kk_36 S), am_iw_p (kk_36 S), am_ix_p (kk_37 S), am_iw_p (kk_37 S), am_ix_p (kk_65 S), am_iw_p (kk_65 S), am_ix_p (kk_66 S), am_iw_p (kk_66 S), am_ix_p (kk_67 S), am_iw_p (kk_67 S), am_ix_p (kk_68 S), am_iw_p (kk_68 S), am_gr_p, am_ob_p (H_k0 S hh), am_ix_p (H_k1 S hh), am_iw_p (H_k1 S hh), am_ix_p (H_k6 S hh), am_iw_p (H_k6 S hh), am_ix_p (H_k16 S hh), am_iw_p (H_k16 S hh), am_ix_p (H_k17 S hh), am_iw_p (H_k17 S hh), am_ix_p (H_k24 S hh), am_iw_p (H_k24 S hh), H_r0_0 S hh, H_r0_1 S hh, H_r0_2 S hh, H_r0_3 S hh, H_r0_4 S hh, H_r0_5 S hh, H_r0_6 S hh, H_r0_15 S hh, H_r2 S hh, H_r7 S hh, H_r18 S hh, am_iq_p (H_k2 S hh), am_iq_p (H_k7 S hh), am_iq_p (H_k18 S hh), am_i_ix, Int.toNat_zero, e0, am_br_ge]
    rw [if_pos (by omega)]
    rfl
  | succ m ih =>
    intro n hn M v3 H
    obtain ⟨S, f, HA, HK⟩ := H
    have e0 : am_I M (q.2.2.1 + 1) 0 = am_i (X 0 0 0) := by rw [(f _ _ (by unfold pA; omega)).1]; exact HX.1 0 (by decide)
    have HI1 : ∀ k, k < 1600 → am_I M 30 k = am_i (Z 0 k) := fun k hk => by rw [(f _ _ (by unfold pA; omega)).1]; exact HI k hk
    have u : ((p : Int) * 6 + (n : Int)).toNat = 6 * p + n := by omega
    have bw := tw_bd BZ (pf X p + 2 * n)
    have r1 := c_tapeTwo S HI1 (k := pf X p + 2 * n) (by omega) 596
    have S2 := S.sI 77 (6 * p + n) (am_i (tw Z (pf X p + 2 * n)))
    have r2 := c_tapeTwo S2 (fun k hk => by rw [am_I_ne1 (by omega)]; exact HI1 k hk) (k := pf X p + 2 * n) (by omega) 596
    have H2 : cRd L q M0 (am_sI M 77 (6 * p + n) (am_i (tw Z (pf X p + 2 * n)))) (rdT X Z p A (n + 1)) := ⟨S2, fr_tr f (fr_sI (Or.inr ⟨by omega, by omega⟩)), cA_x2 HA (by omega) _, cK_mv HK (am_I_ne1 (by omega)) (fun k => am_I_ne1 (by omega))⟩
    have h01 := okT_01 Z (pf X p) hfl n
    have ek : okT Z (pf X p) (n + 1) fl = if okT Z (pf X p) n fl = 1 ∧ tw Z (pf X p + 2 * n) ≤ 999 then 1 else 0 := rfl
    have go : ∀ v3', ∃ M' v3'', am_ev 62 598 81 [.ref 2, .ref 76, v2, v3', .int (am_i (okT Z (pf X p) (n + 1) fl)), .int (am_i ((pf X p + 2 * (n + 1) : Nat) : Int)), .int (am_i p), .int (am_i ((n + 1 : Nat) : Int))] [] (am_sI M 77 (6 * p + n) (am_i (tw Z (pf X p + 2 * n)))) = am_ev 62 598 153 [.ref 2, .ref 76, v2, v3'', .int (am_i (okT Z (pf X p) (nK X) fl)), .int (am_i ((pf X p + 2 * nK X : Nat) : Int)), .int (am_i p), .int (am_i ((0 : Nat) : Int))] [] M' ∧ cRd L q M0 M' (rdT X Z p A (nK X)) := fun v3' => ih (n + 1) (by omega) _ v3' H2
    obtain ⟨M', v3', r, hR⟩ := go (am_kl v3)
    refine ⟨M', v3', ?_, hR⟩
    rw [t62_81]
    simp (disch := omega) only [am_ob_p (kk_2 S), am_ob_p (kk_3 S), am_ob_p (kk_63 S), am_ob_p (kk_64 S), rr_63_0 S, rr_63_1 S, rr_64_2 S, rr_64_3 S, rr_64_4 S, rr_64_5 S, rr_2_0 S, rr_2_1 S, rr_2_3 S, rr_2_4 S, rr_2_5 S, rr_2_8 S, rr_2_10 S, rr_2_12 S, rr_2_13 S, rr_2_14 S, am_ix_p (kk_30 S), am_iw_p (kk_30 S), am_ix_p (kk_33 S), am_iw_p (kk_33 S), am_ix_p (kk_34 S), am_iw_p (kk_34 S), am_ix_p (kk_35 S), am_iw_p (kk_35 S), am_ix_p (kk_36 S), am_iw_p (kk_36 S), am_ix_p (kk_37 S), am_iw_p (kk_37 S), am_ix_p (kk_65 S), am_iw_p (kk_65 S), am_ix_p (kk_66 S), am_iw_p (kk_66 S), am_ix_p (kk_67 S), am_iw_p (kk_67 S), am_ix_p (kk_68 S), am_iw_p (kk_68 S), am_gr_p, am_ob_p (H_k0 S hh), am_ix_p (H_k1 S hh), am_iw_p (H_k1 S hh), am_ix_p (H_k6 S hh), am_iw_p (H_k6 S hh), am_ix_p (H_k16 S hh), am_iw_p (H_k16 S hh), am_ix_p (H_k17 S hh), am_iw_p (H_k17 S hh), am_ix_p (H_k24 S hh), am_iw_p (H_k24 S hh), H_r0_0 S hh, H_r0_1 S hh, H_r0_2 S hh, H_r0_3 S hh, H_r0_4 S hh, H_r0_5 S hh, H_r0_6 S hh, H_r0_15 S hh, H_r2 S hh, H_r7 S hh, H_r18 S hh, am_iq_p (H_k2 S hh), am_iq_p (H_k7 S hh), am_iq_p (H_k18 S hh), am_i_ix, Int.toNat_zero, e0, am_br_ge]
    rw [if_neg (by omega), am_ob_p (kk_76 S), rr_76_2 S, am_gr_p, r1, am_bI_p, am_i_mul, am_i_add, am_iw_p (kk_77 S) (by omega) (by omega) (by omega) (by omega), am_i_ix (by omega) (by omega), u]
    simp only [am_lt]
    rw [am_br_eq (by omega) (by omega) (by omega) (by omega), am_i_add, am_i_add, show ((pf X p + 2 * n : Nat) : Int) + 2 = ((pf X p + 2 * (n + 1) : Nat) : Int) by omega]
    rcases h01 with g | g
    · rw [if_p0 g]
      rw [ek, if_neg (by omega)] at r
      exact r
    · rw [if_p1 g, am_ob_p (kk_2 S2), r2, am_bI_p, am_br_gt (by omega) (by omega) (by omega) (by omega)]
      by_cases g2 : 999 < tw Z (pf X p + 2 * n)
      · rw [if_pos g2]
        rw [ek, if_neg (by omega)] at r
        exact r
      · rw [if_neg g2]
        rw [ek, if_pos ⟨g, by omega⟩] at r
        exact r
theorem c_readS {L : Nat} {q : am_Pq} {M0 : am_M} (hh : isH q.2.2.1) {X : am_X} {Z : Nat → Nat → Int} (HX : cH M0 q.2.2.1 X) (B : hB X) (BZ : zB X Z) (HI : ∀ k, k < 1600 → am_I M0 30 k = am_i (Z 0 k)) {p : Nat} (hp : p ≤ nP X) {A : am_A} {fl : Int} (hfl : fl = 0 ∨ fl = 1) (v2 : Value) :
    ∀ m n : Nat, n + m = nF X → ∀ (M : am_M) (v3 : Value), cRd L q M0 M (rdS X Z p A n) → ∃ M' v3' v7', am_ev 62 598 153 [.ref 2, .ref 76, v2, v3, .int (am_i (okS X Z (pf X p + 2 * nK X) n fl)), .int (am_i ((pf X p + 2 * nK X + n : Nat) : Int)), .int (am_i p), .int (am_i n)] [] M = am_ev 62 598 61 [.ref 2, .ref 76, v2, v3', .int (am_i (okS X Z (pf X p + 2 * nK X) (nF X) fl)), .int (am_i ((pf X (p + 1) : Nat) : Int)), .int (am_i ((p + 1 : Nat) : Int)), v7'] [] M' ∧ cRd L q M0 M' (rdS X Z p A (nF X)) := by
  have hh' : q.2.2.1 = 4 ∨ q.2.2.1 = 38 := hh
  obtain ⟨hKK, hK6⟩ := hB_K B
  obtain ⟨hFF, hF8⟩ := hB_F B
  obtain ⟨hPP, hP5⟩ := hB_P B
  have hpf := pf_bd B p
  have hps := pf_s X p
  have hrl : rl X = 2 * nK X + nF X := rfl
  intro m
  induction m with
  | zero =>
    intro n hn M v3 H
    have : n = nF X := by omega
    subst this
    have S := H.1
    have e0 : am_I M (q.2.2.1 + 1) 1 = am_i (X 0 1 0) := by rw [(H.2.1 _ _ (by unfold pA; omega)).1]; exact HX.1 1 (by decide)
    refine ⟨M, v3, .int (am_i (nF X)), ?_, H⟩
    rw [t62_153]
    simp (disch := omega) only [am_ob_p (kk_2 S), am_ob_p (kk_3 S), am_ob_p (kk_63 S), am_ob_p (kk_64 S), rr_63_0 S, rr_63_1 S, rr_64_2 S, rr_64_3 S, rr_64_4 S, rr_64_5 S, rr_2_0 S, rr_2_1 S, rr_2_3 S, rr_2_4 S, rr_2_5 S, rr_2_8 S, rr_2_10 S, rr_2_12 S, rr_2_13 S, rr_2_14 S, am_ix_p (kk_30 S), am_iw_p (kk_30 S), am_ix_p (kk_33 S), am_iw_p (kk_33 S), am_ix_p (kk_34 S), am_iw_p (kk_34 S), am_ix_p (kk_35 S), am_iw_p (kk_35 S), am_ix_p (kk_36 S), am_iw_p (kk_36 S), am_ix_p (kk_37 S), am_iw_p (kk_37 S), am_ix_p (kk_65 S), am_iw_p (kk_65 S), am_ix_p (kk_66 S), am_iw_p (kk_66 S), am_ix_p (kk_67 S), am_iw_p (kk_67 S), am_ix_p (kk_68 S), am_iw_p (kk_68 S), am_gr_p, am_ob_p (H_k0 S hh), am_ix_p (H_k1 S hh), am_iw_p (H_k1 S hh), am_ix_p (H_k6 S hh), am_iw_p (H_k6 S hh), am_ix_p (H_k16 S hh), am_iw_p (H_k16 S hh), am_ix_p (H_k17 S hh), am_iw_p (H_k17 S hh), am_ix_p (H_k24 S hh), am_iw_p (H_k24 S hh), H_r0_0 S hh, H_r0_1 S hh, H_r0_2 S hh, H_r0_3 S hh, H_r0_4 S hh, H_r0_5 S hh, H_r0_6 S hh, H_r0_15 S hh, H_r2 S hh, H_r7 S hh, H_r18 S hh, am_iq_p (H_k2 S hh), am_iq_p (H_k7 S hh), am_iq_p (H_k18 S hh), am_i_ix, Int.toNat_one, e0, am_br_ge]
    rw [if_pos (by omega), am_i_add, show ((pf X p + 2 * nK X + nF X : Nat) : Int) = ((pf X (p + 1) : Nat) : Int) by omega]
    rfl
  | succ m ih =>
    intro n hn M v3 H
    obtain ⟨S, f, HA, HK⟩ := H
    have e0 : am_I M (q.2.2.1 + 1) 1 = am_i (X 0 1 0) := by rw [(f _ _ (by unfold pA; omega)).1]; exact HX.1 1 (by decide)
    have HI1 : ∀ k, k < 1600 → am_I M 30 k = am_i (Z 0 k) := fun k hk => by rw [(f _ _ (by unfold pA; omega)).1]; exact HI k hk
    have u : ((p : Int) * 8 + (n : Int)).toNat = 8 * p + n := by omega
    have bw := BZ.1 (pf X p + 2 * nK X + n)
    have bpt := hB_pt B (show n < nF X by omega)
    have r1 := c_tapeByte S HI1 (k := pf X p + 2 * nK X + n) (by omega) 597
    have S2 := S.sI 78 (8 * p + n) (am_i (Z 0 (pf X p + 2 * nK X + n)))
    have r2 := c_tapeByte S2 (fun k hk => by rw [am_I_ne1 (by omega)]; exact HI1 k hk) (k := pf X p + 2 * nK X + n) (by omega) 597
    have ep : am_I (am_sI M 78 (8 * p + n) (am_i (Z 0 (pf X p + 2 * nK X + n)))) (q.2.2.1 + 6) n = am_i (X 2 n 0) := by
      rw [am_I_ne1 (by omega), (f _ _ (by unfold pA; omega)).1]
      exact HX.2.1 n (by omega)
    have H2 : cRd L q M0 (am_sI M 78 (8 * p + n) (am_i (Z 0 (pf X p + 2 * nK X + n)))) (rdS X Z p A (n + 1)) := ⟨S2, fr_tr f (fr_sI (Or.inr ⟨by omega, by omega⟩)), cA_x3 HA (by omega) _, cK_mv HK (am_I_ne1 (by omega)) (fun k => am_I_ne1 (by omega))⟩
    have h01 := okS_01 X Z (pf X p + 2 * nK X) hfl n
    have ek : okS X Z (pf X p + 2 * nK X) (n + 1) fl = if okS X Z (pf X p + 2 * nK X) n fl = 1 ∧ Z 0 (pf X p + 2 * nK X + n) ≤ X 2 n 0 then 1 else 0 := rfl
    obtain ⟨M', v3', v7', r, hR⟩ := ih (n + 1) (by omega) _ (am_kl v3) H2
    refine ⟨M', v3', v7', ?_, hR⟩
    rw [t62_153]
    simp (disch := omega) only [am_ob_p (kk_2 S), am_ob_p (kk_3 S), am_ob_p (kk_63 S), am_ob_p (kk_64 S), rr_63_0 S, rr_63_1 S, rr_64_2 S, rr_64_3 S, rr_64_4 S, rr_64_5 S, rr_2_0 S, rr_2_1 S, rr_2_3 S, rr_2_4 S, rr_2_5 S, rr_2_8 S, rr_2_10 S, rr_2_12 S, rr_2_13 S, rr_2_14 S, am_ix_p (kk_30 S), am_iw_p (kk_30 S), am_ix_p (kk_33 S), am_iw_p (kk_33 S), am_ix_p (kk_34 S), am_iw_p (kk_34 S), am_ix_p (kk_35 S), am_iw_p (kk_35 S), am_ix_p (kk_36 S), am_iw_p (kk_36 S), am_ix_p (kk_37 S), am_iw_p (kk_37 S), am_ix_p (kk_65 S), am_iw_p (kk_65 S), am_ix_p (kk_66 S), am_iw_p (kk_66 S), am_ix_p (kk_67 S), am_iw_p (kk_67 S), am_ix_p (kk_68 S), am_iw_p (kk_68 S), am_gr_p, am_ob_p (H_k0 S hh), am_ix_p (H_k1 S hh), am_iw_p (H_k1 S hh), am_ix_p (H_k6 S hh), am_iw_p (H_k6 S hh), am_ix_p (H_k16 S hh), am_iw_p (H_k16 S hh), am_ix_p (H_k17 S hh), am_iw_p (H_k17 S hh), am_ix_p (H_k24 S hh), am_iw_p (H_k24 S hh), H_r0_0 S hh, H_r0_1 S hh, H_r0_2 S hh, H_r0_3 S hh, H_r0_4 S hh, H_r0_5 S hh, H_r0_6 S hh, H_r0_15 S hh, H_r2 S hh, H_r7 S hh, H_r18 S hh, am_iq_p (H_k2 S hh), am_iq_p (H_k7 S hh), am_iq_p (H_k18 S hh), am_i_ix, Int.toNat_one, e0, am_br_ge]
    rw [if_neg (by omega), am_ob_p (kk_76 S), rr_76_3 S, am_gr_p, r1, am_bI_p, am_i_mul, am_i_add, am_iw_p (kk_78 S) (by omega) (by omega) (by omega) (by omega), am_i_ix (by omega) (by omega), u]
    simp only [am_lt]
    rw [am_br_eq (by omega) (by omega) (by omega) (by omega), am_i_add, am_i_add, show ((pf X p + 2 * nK X + n : Nat) : Int) + 1 = ((pf X p + 2 * nK X + (n + 1) : Nat) : Int) by omega]
    rcases h01 with g | g
    · rw [if_p0 g]
      rw [ek, if_neg (by omega)] at r
      exact r
    · rw [if_p1 g, am_ob_p (kk_2 S2), r2, am_bI_p]
      simp (disch := omega) only [am_ob_p (kk_2 S2), am_ob_p (kk_3 S2), am_ob_p (kk_63 S2), am_ob_p (kk_64 S2), rr_63_0 S2, rr_63_1 S2, rr_64_2 S2, rr_64_3 S2, rr_64_4 S2, rr_64_5 S2, rr_2_0 S2, rr_2_1 S2, rr_2_3 S2, rr_2_4 S2, rr_2_5 S2, rr_2_8 S2, rr_2_10 S2, rr_2_12 S2, rr_2_13 S2, rr_2_14 S2, am_ix_p (kk_30 S2), am_iw_p (kk_30 S2), am_ix_p (kk_33 S2), am_iw_p (kk_33 S2), am_ix_p (kk_34 S2), am_iw_p (kk_34 S2), am_ix_p (kk_35 S2), am_iw_p (kk_35 S2), am_ix_p (kk_36 S2), am_iw_p (kk_36 S2), am_ix_p (kk_37 S2), am_iw_p (kk_37 S2), am_ix_p (kk_65 S2), am_iw_p (kk_65 S2), am_ix_p (kk_66 S2), am_iw_p (kk_66 S2), am_ix_p (kk_67 S2), am_iw_p (kk_67 S2), am_ix_p (kk_68 S2), am_iw_p (kk_68 S2), am_gr_p, am_ob_p (H_k0 S2 hh), am_ix_p (H_k1 S2 hh), am_iw_p (H_k1 S2 hh), am_ix_p (H_k6 S2 hh), am_iw_p (H_k6 S2 hh), am_ix_p (H_k16 S2 hh), am_iw_p (H_k16 S2 hh), am_ix_p (H_k17 S2 hh), am_iw_p (H_k17 S2 hh), am_ix_p (H_k24 S2 hh), am_iw_p (H_k24 S2 hh), H_r0_0 S2 hh, H_r0_1 S2 hh, H_r0_2 S2 hh, H_r0_3 S2 hh, H_r0_4 S2 hh, H_r0_5 S2 hh, H_r0_6 S2 hh, H_r0_15 S2 hh, H_r2 S2 hh, H_r7 S2 hh, H_r18 S2 hh, am_iq_p (H_k2 S2 hh), am_iq_p (H_k7 S2 hh), am_iq_p (H_k18 S2 hh), am_i_ix, Int.toNat_natCast, ep, am_br_gt]
      by_cases g2 : X 2 n 0 < Z 0 (pf X p + 2 * nK X + n)
      · rw [if_pos g2]
        rw [ek, if_neg (by omega)] at r
        exact r
      · rw [if_neg g2]
        rw [ek, if_pos ⟨g, by omega⟩] at r
        exact r
