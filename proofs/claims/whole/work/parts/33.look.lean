/-! The class: hours ahead. -/
theorem Sh_75 {L : Nat} {q : am_Pq} {M : am_M} (S : am_Sh L q M) (v : Nat) : am_Sh L (q.1, q.2.1, q.2.2.1, v) (am_sR M 75 0 v) := by
  obtain ⟨h1, h2, h3, h4⟩ := S
  refine ⟨h1, fun r hr j hj => ?_, h3, h4⟩
  show (if r = 75 ∧ j = 0 then some v else am_R M r j) = am_rr (q.1, q.2.1, q.2.2.1, v) r j
  unfold am_rr
  by_cases g : r = 75 ∧ j = 0
  · rw [if_pos g, if_neg (by omega), if_neg (by omega), if_neg (by omega), if_pos g]
  · rw [if_neg g, h2 r hr j hj]
    unfold am_rr
    simp only [if_neg g]
def pB (b _k : Nat) : Prop := 75 ≤ b ∧ b < 87
/-- the course ahead begins as the course now -/
theorem c_begin {L : Nat} {q : am_Pq} {M : am_M} (S : am_Sh L q M) {A : am_A} {K : List Int} {bk : Nat} (HA : cA M 64 A) (HK : cK M 64 K bk) (P : Int) (d : Nat) :
    ∃ M', am_cl 72 (d + 2) [.ref 75, .ref 63, .int (am_i P)] M = some (none, M') ∧ am_Sh L (q.1, q.2.1, q.2.2.1, q.2.2.1) M' ∧ fr pB M M' ∧ cA M' 76 (aP A P) ∧ cK M' 76 K bk ∧ cQ M' 75 qz := by
  have c63 : isC 63 := Or.inl rfl
  have c75 : isC 75 := Or.inr rfl
  have S1 := Sh_75 S q.2.2.1
  have hch : am_R M 63 0 = some q.2.2.1 := rr_63_0 S
  obtain ⟨M2, r2, S2, f2, HA2, HK2⟩ := c_copyFrom (a := 76) (b := 64) S1 (isA_of c75) (isA_of c63) (by decide) (A := A) (K := K) (bk := bk) HA HK d
  have S3 := S2.sI 76 1 (am_i P)
  have HA3 : cA (am_sI M2 76 1 (am_i P)) 76 (aP A P) := by
    obtain ⟨h1, h2, h3, h4, h5⟩ := HA2
    unfold aP
    refine ⟨?_, ?_, fun q' hq' k hk => ?_, fun q' hq' f' hf' => ?_, fun p' hp' => ?_⟩
    · rw [am_I_ne2 (by omega), uA_ne (by omega)]; exact h1
    · rw [am_I_same, uA_eq]
    · rw [am_I_ne1 (by omega), uA_ne (by omega)]; exact h3 q' hq' k hk
    · rw [am_I_ne1 (by omega), uA_ne (by omega)]; exact h4 q' hq' f' hf'
    · rw [am_I_ne1 (by omega), uA_ne (by omega)]; exact h5 p' hp'
  have key : ∀ m n : Nat, n + m = 5 → ∀ (M1 : am_M) (v1 v2 : Value), am_Sh L (q.1, q.2.1, q.2.2.1, q.2.2.1) M1 → fr pB M M1 → cA M1 76 (aP A P) → cK M1 76 K bk → (∀ p, p < n → am_I M1 81 p = am_i 0 ∧ am_I M1 82 p = am_i 0) →
      ∃ M', am_ev 72 (d + 2) 29 [.ref 75, v1, v2, .int (am_i n)] [] M1 = some (none, M') ∧ am_Sh L (q.1, q.2.1, q.2.2.1, q.2.2.1) M' ∧ fr pB M M' ∧ cA M' 76 (aP A P) ∧ cK M' 76 K bk ∧ cQ M' 75 qz := by
    intro m
    induction m with
    | zero =>
      intro n hn M1 v1 v2 S1 f1 HA1 HK1 h0
      refine ⟨M1, ?_, S1, f1, HA1, HK1, fun p hp => (h0 p (by omega)).1, fun p hp => (h0 p (by omega)).2⟩
      rw [t72_29, am_br_ge (by omega) (by omega) (by omega) (by omega), if_pos (by omega)]
    | succ m ih =>
      intro n hn M1 v1 v2 S1 f1 HA1 HK1 h0
      obtain ⟨M', r, hR⟩ := ih (n + 1) (by omega) _ v1 (am_kl v2) ((S1.sI 81 n (am_i 0)).sI 82 n (am_i 0)) (fr_tr f1 (fr_tr (fr_sI (by unfold pB; omega)) (fr_sI (by unfold pB; omega)))) (cA_mv HA1 (fun b k h1 h2 h3 => by rw [am_I_ne1 (by omega), am_I_ne1 (by omega)])) (cK_mv HK1 (by rw [am_I_ne1 (by omega), am_I_ne1 (by omega)]) (fun k => by rw [am_I_ne1 (by omega), am_I_ne1 (by omega)])) (fun p hp => by
        by_cases g : p = n
        · subst g
          exact ⟨by rw [am_I_ne1 (by omega), am_I_same], am_I_same _ _ _ _⟩
        · rw [am_I_ne1 (show 81 ≠ 82 by decide), am_I_ne2 g, am_I_ne2 g, am_I_ne1 (show 82 ≠ 81 by decide)]
          exact h0 p (by omega))
      refine ⟨M', ?_, hR⟩
      rw [t72_29, am_br_ge (by omega) (by omega) (by omega) (by omega), if_neg (by omega)]
      simp (disch := omega) only [am_ob_p (C_k0 S1 c75), am_ob_p (C_k1 S1 c75), am_ob_p (C_k8 S1 c75), am_ix_p (C_k2 S1 c75), am_iw_p (C_k2 S1 c75), am_ix_p (C_k3 S1 c75), am_iw_p (C_k3 S1 c75), am_ix_p (C_k4 S1 c75), am_iw_p (C_k4 S1 c75), am_ix_p (C_k5 S1 c75), am_iw_p (C_k5 S1 c75), am_ix_p (C_k6 S1 c75), am_iw_p (C_k6 S1 c75), am_ix_p (C_k7 S1 c75), am_iw_p (C_k7 S1 c75), am_ix_p (C_k9 S1 c75), am_iw_p (C_k9 S1 c75), am_ix_p (C_k10 S1 c75), am_iw_p (C_k10 S1 c75), am_ix_p (C_k11 S1 c75), am_iw_p (C_k11 S1 c75), C_r0_1 S1 c75, C_r0_2 S1 c75, C_r0_3 S1 c75, C_r0_5 S1 c75, C_r1_2 S1 c75, C_r1_3 S1 c75, C_r1_4 S1 c75, C_r1_5 S1 c75, C_r8_0 S1 c75, C_r8_1 S1 c75, C_r8_2 S1 c75, am_gr_p, am_i_ix, Int.toNat_zero, Int.toNat_one, Int.toNat_natCast, Int.reduceToNat, am_lt, am_i_add, am_i_sub, am_i_mul, am_ob_sI, am_ix_sI, am_iw_sI, am_iq_sI, am_R_sI', am_ob_sL, am_ix_sL, am_iw_sL, am_iq_sL, am_R_sL', am_I_same, am_I_ne1, am_I_ne2, am_L_same, am_L_ne1, am_L_ne2, am_L_sI', am_I_sL']
      exact r
  have hsub : ∀ b k, pA 76 b k → pB b k := fun b k h => by unfold pA at h; unfold pB; omega
  obtain ⟨M', r, S', f', HA', HK', HQ'⟩ := key 5 0 (by omega) _ (.ref 63) (.int (am_i P)) S3 (fr_tr (fr_tr fr_sR (fr_mono f2 hsub)) (fr_sI (by unfold pB; omega))) HA3 (cK_mv HK2 (am_I_ne2 (by omega)) (fun k => am_I_ne1 (by omega))) (fun p hp => absurd hp (by omega))
  refine ⟨M', ?_, S', f', HA', HK', HQ'⟩
  rw [t72]
  simp (disch := omega) only [am_ob_p (C_k0 S c63), am_ob_p (C_k1 S c63), am_ob_p (C_k8 S c63), am_ix_p (C_k2 S c63), am_iw_p (C_k2 S c63), am_ix_p (C_k3 S c63), am_iw_p (C_k3 S c63), am_ix_p (C_k4 S c63), am_iw_p (C_k4 S c63), am_ix_p (C_k5 S c63), am_iw_p (C_k5 S c63), am_ix_p (C_k6 S c63), am_iw_p (C_k6 S c63), am_ix_p (C_k7 S c63), am_iw_p (C_k7 S c63), am_ix_p (C_k9 S c63), am_iw_p (C_k9 S c63), am_ix_p (C_k10 S c63), am_iw_p (C_k10 S c63), am_ix_p (C_k11 S c63), am_iw_p (C_k11 S c63), C_r0_1 S c63, C_r0_2 S c63, C_r0_3 S c63, C_r0_5 S c63, C_r1_2 S c63, C_r1_3 S c63, C_r1_4 S c63, C_r1_5 S c63, C_r8_0 S c63, C_r8_1 S c63, C_r8_2 S c63, hch, am_ob_p (C_k0 S c75), am_gr_p, am_lt]
  rw [am_ob_p (C_k0 S1 c75), C_r0_1 S1 c75, am_gr_p, am_ob_p (C_k0 S1 c63), C_r0_1 S1 c63, am_gr_p, am_ob_p (C_k1 S1 c75), r2, am_bV_p]
  simp (disch := omega) only [am_ob_p (C_k0 S2 c75), am_ob_p (C_k1 S2 c75), am_ob_p (C_k8 S2 c75), am_ix_p (C_k2 S2 c75), am_iw_p (C_k2 S2 c75), am_ix_p (C_k3 S2 c75), am_iw_p (C_k3 S2 c75), am_ix_p (C_k4 S2 c75), am_iw_p (C_k4 S2 c75), am_ix_p (C_k5 S2 c75), am_iw_p (C_k5 S2 c75), am_ix_p (C_k6 S2 c75), am_iw_p (C_k6 S2 c75), am_ix_p (C_k7 S2 c75), am_iw_p (C_k7 S2 c75), am_ix_p (C_k9 S2 c75), am_iw_p (C_k9 S2 c75), am_ix_p (C_k10 S2 c75), am_iw_p (C_k10 S2 c75), am_ix_p (C_k11 S2 c75), am_iw_p (C_k11 S2 c75), C_r0_1 S2 c75, C_r0_2 S2 c75, C_r0_3 S2 c75, C_r0_5 S2 c75, C_r1_2 S2 c75, C_r1_3 S2 c75, C_r1_4 S2 c75, C_r1_5 S2 c75, C_r8_0 S2 c75, C_r8_1 S2 c75, C_r8_2 S2 c75, am_gr_p, am_i_ix, Int.toNat_zero, Int.toNat_one, Int.toNat_natCast, Int.reduceToNat, am_lt, am_i_add, am_i_sub, am_i_mul, am_ob_sI, am_ix_sI, am_iw_sI, am_iq_sI, am_R_sI', am_ob_sL, am_ix_sL, am_iw_sL, am_iq_sL, am_R_sL', am_I_same, am_I_ne1, am_I_ne2, am_L_same, am_L_ne1, am_L_ne2, am_L_sI', am_I_sL']
  exact r
theorem c_lookAhead {L : Nat} {q : am_Pq} {M : am_M} (S : am_Sh L q M) (hh : isH q.2.2.1) {X : am_X} {G : am_Gf} {A : am_A} {K : List Int} {bk : Nat} (HX : cH M q.2.2.1 X) (HG : cG M q.2.2.1 G) (HA : cA M 64 A) (HK : cK M 64 K bk) (hbk : bk < 1800000000) (B : hB X) (BG : gB G) (BA : aB X A) {P : Int} (h0 : 0 ≤ P) (h1 : P < ((2 ^ nP X : Nat) : Int)) {n : Nat} (hn : n ≤ 100) (hn2 : A 0 0 0 + n ≤ 23999) (d : Nat) :
    ∃ M', am_cl 45 (d + 6) [.ref 2, .int (am_i P), .int (am_i n)] M = some (none, M') ∧ am_Sh L (q.1, q.2.1, q.2.2.1, q.2.2.1) M' ∧ fr pB M M' ∧ cA M' 76 (hours X G (aP A P, qz, K) n).1 ∧ cK M' 76 (hours X G (aP A P, qz, K) n).2.2 (bk + 5 * n) ∧ cQ M' 75 (hours X G (aP A P, qz, K) n).2.1 := by
  have c75 : isC 75 := Or.inr rfl
  have hh' : q.2.2.1 = 4 ∨ q.2.2.1 = 38 := hh
  have BP := aB_aP BA h0 h1
  have eT : aP A P 0 0 0 = A 0 0 0 := uA_ne (by omega)
  obtain ⟨M1, r1, S1, f1, HA1, HK1, HQ1⟩ := c_begin S HA HK P (d + 3)
  have key : ∀ m k : Nat, k + m = n → ∀ (M1 : am_M) (v1 : Value), am_Sh L (q.1, q.2.1, q.2.2.1, q.2.2.1) M1 → fr pB M M1 → cA M1 76 (hours X G (aP A P, qz, K) k).1 → cK M1 76 (hours X G (aP A P, qz, K) k).2.2 (bk + 5 * k) → cQ M1 75 (hours X G (aP A P, qz, K) k).2.1 →
      ∃ M', am_ev 45 (d + 6) 14 [.ref 2, v1, .int (am_i n), .int (am_i k)] [] M1 = some (none, M') ∧ am_Sh L (q.1, q.2.1, q.2.2.1, q.2.2.1) M' ∧ fr pB M M' ∧ cA M' 76 (hours X G (aP A P, qz, K) n).1 ∧ cK M' 76 (hours X G (aP A P, qz, K) n).2.2 (bk + 5 * n) ∧ cQ M' 75 (hours X G (aP A P, qz, K) n).2.1 := by
    intro m
    induction m with
    | zero =>
      intro k hk M1 v1 S1 f1 HA1 HK1 HQ1
      have : k = n := by omega
      subst this
      refine ⟨M1, ?_, S1, f1, HA1, HK1, HQ1⟩
      rw [t45_14, am_br_ge (by omega) (by omega) (by omega) (by omega), if_pos (by omega)]
    | succ m ih =>
      intro k hk M1 v1 S1 f1 HA1 HK1 HQ1
      have hb := (hours_bd (G := G) (s := (aP A P, qz, K)) B BP k (by show aP A P 0 0 0 + k ≤ 23999; omega)).1
      obtain ⟨M2, r2, S2, f2, Hs2⟩ := c_passHour (s := hours X G (aP A P, qz, K) k) (h := q.2.2.1) S1 c75 hh (rr_75_0 S1) (cH_mv HX B (fun b k h1 h2 => (f1 b k (by unfold pB; omega)).1)) (cG_mv HG (fun b k h1 h2 => (f1 b k (by unfold pB; omega)).1)) HA1 HK1 HQ1 (by omega) B BG hb d
      obtain ⟨M', r, hR⟩ := ih (k + 1) (by omega) M2 v1 S2 (fr_tr f1 (fr_mono f2 (fun b k h => h))) Hs2.1 Hs2.2.1 Hs2.2.2.1
      refine ⟨M', ?_, hR⟩
      rw [t45_14, am_br_ge (by omega) (by omega) (by omega) (by omega), if_neg (by omega), am_ob_p (kk_2 S1), rr_2_4 S1, am_gr_p, am_ob_p (C_k0 S1 c75), r2, am_bI_p, am_i_add]
      exact r
  obtain ⟨M', r, hR⟩ := key n 0 (by omega) M1 (.int (am_i P)) S1 f1 HA1 HK1 HQ1
  refine ⟨M', ?_, hR⟩
  rw [t45, am_ob_p (kk_2 S), rr_2_4 S, am_gr_p, am_ob_p (kk_2 S), rr_2_3 S, am_gr_p, am_ob_p (C_k0 S c75), r1, am_bV_p]
  exact r
/-! The reference: hours ahead, and back. -/
/-- an account set aside -/
def mAs (M : am_M) (A : am_A) : Prop := am_I M 230 0 = am_i (A 0 0 0 / 24) ∧ am_I M 230 1 = am_i (A 0 0 0 % 24) ∧ (∀ q, q < 6 → ∀ k, k < 6 → am_I M 230 (2 + 14 * q + k) = am_i (A 2 q k)) ∧ (∀ q, q < 6 → ∀ f, f < 8 → am_I M 230 (2 + 14 * q + 6 + f) = am_i (A 3 q f)) ∧ (∀ p, p < 5 → am_I M 230 (86 + 2 * p) = am_i (prs A p)) ∧ (∀ p, p < 5 → am_I M 230 (87 + 2 * p) = am_i (A 4 p 0))
theorem mAs_of {M M' : am_M} {A : am_A} (H : mA M A) (e : ∀ k, k < 96 → am_I M' 230 k = am_I M 229 k) : mAs M' A := by
  obtain ⟨h1, h2, h3, h4, h5, h6⟩ := H
  exact ⟨(e _ (by omega)).trans h1, (e _ (by omega)).trans h2, fun q hq k hk => (e _ (by omega)).trans (h3 q hq k hk), fun q hq k hk => (e _ (by omega)).trans (h4 q hq k hk), fun p hp => (e _ (by omega)).trans (h5 p hp), fun p hp => (e _ (by omega)).trans (h6 p hp)⟩
theorem mA_of {M M' : am_M} {A : am_A} (H : mAs M A) (e : ∀ k, k < 96 → am_I M' 229 k = am_I M 230 k) : mA M' A := by
  obtain ⟨h1, h2, h3, h4, h5, h6⟩ := H
  exact ⟨(e _ (by omega)).trans h1, (e _ (by omega)).trans h2, fun q hq k hk => (e _ (by omega)).trans (h3 q hq k hk), fun q hq k hk => (e _ (by omega)).trans (h4 q hq k hk), fun p hp => (e _ (by omega)).trans (h5 p hp), fun p hp => (e _ (by omega)).trans (h6 p hp)⟩
theorem mAs_mv {M M' : am_M} {A : am_A} (H : mAs M A) (e : ∀ k, am_I M' 230 k = am_I M 230 k) : mAs M' A := by
  obtain ⟨h1, h2, h3, h4, h5, h6⟩ := H
  exact ⟨(e _).trans h1, (e _).trans h2, fun q hq k hk => (e _).trans (h3 q hq k hk), fun q hq k hk => (e _).trans (h4 q hq k hk), fun p hp => (e _).trans (h5 p hp), fun p hp => (e _).trans (h6 p hp)⟩
theorem m_putsAside {L : Nat} {q : am_Pq} {M : am_M} (S : am_Sh L q M) {A : am_A} (HA : mA M A) (d : Nat) :
    ∃ M', am_cl 188 d [.ref 187] M = some (none, M') ∧ am_Sh L q M' ∧ fr (fun b k => b = 230 ∨ (b = 187 ∧ k = 60)) M M' ∧ mAs M' A ∧ am_I M' 187 60 = am_i 1 := by
  have key : ∀ m n : Nat, n + m = 96 → ∀ (M1 : am_M), am_Sh L q M1 → fr (fun b k => b = 230 ∨ (b = 187 ∧ k = 60)) M M1 → (∀ k, k < n → am_I M1 230 k = am_I M 229 k) → am_I M1 187 60 = am_i 1 →
      ∃ M', am_ev 188 d 7 [.ref 187, .int (am_i n)] [] M1 = some (none, M') ∧ am_Sh L q M' ∧ fr (fun b k => b = 230 ∨ (b = 187 ∧ k = 60)) M M' ∧ (∀ k, k < 96 → am_I M' 230 k = am_I M 229 k) ∧ am_I M' 187 60 = am_i 1 := by
    intro m
    induction m with
    | zero =>
      intro n hn M1 S1 f1 hI h60
      refine ⟨M1, ?_, S1, f1, fun k hk => hI k (by omega), h60⟩
      rw [t188_7, am_br_ge (by omega) (by omega) (by omega) (by omega), if_pos (by omega)]
    | succ m ih =>
      intro n hn M1 S1 f1 hI h60
      have e : am_I M1 229 n = am_I M 229 n := (f1 229 n (by omega)).1
      obtain ⟨M', r, hR⟩ := ih (n + 1) (by omega) _ (S1.sI 230 n (am_I M 229 n)) (fr_tr f1 (fr_sI (Or.inl rfl))) (fun k hk => by
        by_cases g : k = n
        · subst g
          rw [am_I_same]
        · rw [am_I_ne2 g]; exact hI k (by omega)) (by rw [am_I_ne1 (by omega)]; exact h60)
      refine ⟨M', ?_, hR⟩
      rw [t188_7, am_br_ge (by omega) (by omega) (by omega) (by omega), if_neg (by omega)]
      simp (disch := omega) only [am_ob_p (kk_187 S1), rr_187_54 S1, rr_187_55 S1, am_ix_p (kk_229 S1), am_iw_p (kk_230 S1), am_gr_p, am_i_ix, Int.toNat_zero, Int.toNat_one, Int.toNat_natCast, Int.reduceToNat, am_lt, am_i_add, am_i_sub, am_i_mul, e]
      exact r
  obtain ⟨M', r, S', f', hI, h60⟩ := key 96 0 (by omega) _ (S.sI 187 60 (am_i 1)) (fr_sI (Or.inr ⟨rfl, rfl⟩)) (fun k hk => absurd hk (by omega)) (am_I_same _ _ _ _)
  refine ⟨M', ?_, S', f', mAs_of HA hI, h60⟩
  rw [t188, am_ob_p (kk_187 S), am_tr_1]
  exact r
theorem m_triesAnew {L : Nat} {q : am_Pq} {M : am_M} (S : am_Sh L q M) {A : am_A} (HA : mAs M A) (d : Nat) :
    ∃ M', am_cl 189 d [.ref 187] M = some (none, M') ∧ am_Sh L q M' ∧ fr (fun b k => b = 229 ∧ k < 96) M M' ∧ mA M' A := by
  have key : ∀ m n : Nat, n + m = 96 → ∀ (M1 : am_M), am_Sh L q M1 → fr (fun b k => b = 229 ∧ k < 96) M M1 → (∀ k, k < n → am_I M1 229 k = am_I M 230 k) →
      ∃ M', am_ev 189 d 2 [.ref 187, .int (am_i n)] [] M1 = some (none, M') ∧ am_Sh L q M' ∧ fr (fun b k => b = 229 ∧ k < 96) M M' ∧ (∀ k, k < 96 → am_I M' 229 k = am_I M 230 k) := by
    intro m
    induction m with
    | zero =>
      intro n hn M1 S1 f1 hI
      refine ⟨M1, ?_, S1, f1, fun k hk => hI k (by omega)⟩
      rw [t189_2, am_br_ge (by omega) (by omega) (by omega) (by omega), if_pos (by omega)]
    | succ m ih =>
      intro n hn M1 S1 f1 hI
      have e : am_I M1 230 n = am_I M 230 n := (f1 230 n (by omega)).1
      obtain ⟨M', r, hR⟩ := ih (n + 1) (by omega) _ (S1.sI 229 n (am_I M 230 n)) (fr_tr f1 (fr_sI ⟨rfl, by omega⟩)) (fun k hk => by
        by_cases g : k = n
        · subst g
          rw [am_I_same]
        · rw [am_I_ne2 g]; exact hI k (by omega))
      refine ⟨M', ?_, hR⟩
      rw [t189_2, am_br_ge (by omega) (by omega) (by omega) (by omega), if_neg (by omega)]
      simp (disch := omega) only [am_ob_p (kk_187 S1), rr_187_54 S1, rr_187_55 S1, am_ix_p (kk_230 S1), am_iw_p (kk_229 S1), am_gr_p, am_i_ix, Int.toNat_zero, Int.toNat_one, Int.toNat_natCast, Int.reduceToNat, am_lt, am_i_add, am_i_sub, am_i_mul, e]
      exact r
  obtain ⟨M', r, S', f', hI⟩ := key 96 0 (by omega) M S (fr_rfl _ _) (fun k hk => absurd hk (by omega))
  refine ⟨M', ?_, S', f', mA_of HA hI⟩
  rw [t189]
  exact r
theorem m_takesBack {L : Nat} {q : am_Pq} {M : am_M} (S : am_Sh L q M) {A : am_A} (HA : mAs M A) (d : Nat) :
    ∃ M', am_cl 190 (d + 1) [.ref 187] M = some (none, M') ∧ am_Sh L q M' ∧ fr (fun b k => (b = 229 ∧ k < 96) ∨ (b = 187 ∧ k = 60)) M M' ∧ mA M' A ∧ am_I M' 187 60 = am_i 0 := by
  obtain ⟨M1, r1, S1, f1, HA1⟩ := m_triesAnew S HA d
  refine ⟨am_sI M1 187 60 (am_i 0), ?_, S1.sI _ _ _, fr_tr (fr_mono f1 (fun b k h => Or.inl h)) (fr_sI (Or.inr ⟨rfl, rfl⟩)), mA_mv HA1 (fun k hk => am_I_ne1 (by omega)), am_I_same _ _ _ _⟩
  rw [t190, am_ob_p (kk_187 S), r1, am_bV_p, am_ob_p (kk_187 S1), am_tr_0]
  rfl
theorem m_pressAll {L : Nat} {q : am_Pq} {M : am_M} (S : am_Sh L q M) {X : am_X} {A : am_A} (HX : mH M X) (HA : mA M A) (B : hB X) (BA : aB X A) {P : Int} (h0 : 0 ≤ P) (h1 : P < ((2 ^ nP X : Nat) : Int)) (d : Nat) :
    ∃ M', am_cl 168 (d + 1) [.ref 187, .int (am_i P)] M = some (none, M') ∧ am_Sh L q M' ∧ fr (fun b k => b = 229 ∧ k < 96) M M' ∧ mA M' (aP A P) := by
  obtain ⟨hPP, hP5⟩ := hB_P B
  have h32 : 2 ^ nP X ≤ 2 ^ 5 := Nat.pow_le_pow_right (by decide) hP5
  have key : ∀ m n : Nat, n + m = nP X → ∀ (M1 : am_M), am_Sh L q M1 → fr (fun b k => b = 229 ∧ k < 96) M M1 → (∀ k, (∀ p, p < n → k ≠ 86 + 2 * p) → am_I M1 229 k = am_I M 229 k) → (∀ p, p < n → am_I M1 229 (86 + 2 * p) = am_i (P / ((2 ^ p : Nat) : Int) % 2)) →
      ∃ M', am_ev 168 (d + 1) 2 [.ref 187, .int (am_i P), .int (am_i n)] [] M1 = some (none, M') ∧ am_Sh L q M' ∧ fr (fun b k => b = 229 ∧ k < 96) M M' ∧ (∀ k, (∀ p, p < nP X → k ≠ 86 + 2 * p) → am_I M' 229 k = am_I M 229 k) ∧ (∀ p, p < nP X → am_I M' 229 (86 + 2 * p) = am_i (P / ((2 ^ p : Nat) : Int) % 2)) := by
    intro m
    induction m with
    | zero =>
      intro n hn M1 S1 f1 hI hI2
      have : n = nP X := by omega
      subst this
      refine ⟨M1, ?_, S1, f1, hI, hI2⟩
      rw [t168_2]
      simp (disch := omega) only [am_ob_p (kk_187 S1), m_personMany S1 (mH_mv (M' := M1) HX B (fun b k h1 h2 h3 => (f1 b k (by omega)).1)), am_bI_p, am_br_ge]
      rw [if_pos (by omega)]
    | succ m ih =>
      intro n hn M1 S1 f1 hI hI2
      have u : ((86 : Int) + 2 * (n : Int)).toNat = 86 + 2 * n := by omega
      have eb := bit_p h0 (show P < 32 by omega) (show n < 5 by omega)
      obtain ⟨M', r, hR⟩ := ih (n + 1) (by omega) _ (S1.sI 229 (86 + 2 * n) (am_i (P / ((2 ^ n : Nat) : Int) % 2))) (fr_tr f1 (fr_sI ⟨rfl, by omega⟩)) (fun k hk => by
        rw [am_I_ne2 (hk n (by omega))]
        exact hI k (fun p hp => hk p (by omega))) (fun p hp => by
        by_cases g : p = n
        · subst g
          rw [am_I_same]
        · rw [am_I_ne2 (by omega)]; exact hI2 p (by omega))
      refine ⟨M', ?_, hR⟩
      rw [t168_2]
      simp (disch := omega) only [am_ob_p (kk_187 S1), m_personMany S1 (mH_mv (M' := M1) HX B (fun b k h1 h2 h3 => (f1 b k (by omega)).1)), am_bI_p, am_br_ge]
      rw [if_neg (by omega)]
      simp (disch := omega) only [rr_187_54 S1, am_iw_p (kk_229 S1), am_gr_p, am_i_ix, Int.toNat_zero, Int.toNat_one, Int.toNat_natCast, Int.reduceToNat, am_lt, am_i_add, am_i_sub, am_i_mul, u, eb]
      exact r
  obtain ⟨M', r, S', f', hI, hI2⟩ := key (nP X) 0 (by omega) M S (fr_rfl _ _) (fun k hk => rfl) (fun p hp => absurd hp (by omega))
  refine ⟨M', ?_, S', f', ?_⟩
  · rw [t168]
    exact r
  · obtain ⟨g1, g2, g3, g4, g5, g6⟩ := HA
    have hb := aB_p BA
    unfold aP
    refine ⟨?_, ?_, fun q' hq' k' hk' => ?_, fun q' hq' f' hf' => ?_, fun p hp => ?_, fun p hp => ?_⟩
    · rw [hI _ (fun p hp => by omega), uA_ne (by omega)]; exact g1
    · rw [hI _ (fun p hp => by omega), uA_ne (by omega)]; exact g2
    · rw [hI _ (fun p hp => by omega), uA_ne (by omega)]; exact g3 q' hq' k' hk'
    · rw [hI _ (fun p hp => by omega), uA_ne (by omega)]; exact g4 q' hq' f' hf'
    · have e : prs (uA A 1 0 0 P) p = P / ((2 ^ p : Nat) : Int) % 2 := by unfold prs; rw [uA_eq]
      rw [e]
      by_cases g : p < nP X
      · exact hI2 p g
      · rw [hI _ (fun p' hp' => by omega), g5 p hp]
        unfold prs
        rw [prs_hi h0 hP5 h1 (by omega) hp, prs_hi hb.1 hP5 hb.2 (by omega) hp]
    · rw [hI _ (fun p hp => by omega), uA_ne (by omega)]; exact g6 p hp
theorem m_pressers {L : Nat} {q : am_Pq} {M : am_M} (S : am_Sh L q M) {X : am_X} {A : am_A} (HX : mH M X) (HA : mA M A) (B : hB X) (BA : aB X A) (d : Nat) :
    am_cl 169 (d + 1) [.ref 187] M = some (some (.int (am_i (A 1 0 0))), M) := by
  obtain ⟨hPP, hP5⟩ := hB_P B
  have h32 := aB_p5 B BA
  have hb := aB_p BA
  have key : ∀ m n : Nat, n + m = nP X → am_ev 169 (d + 1) 4 [.ref 187, .int (am_i (((A 1 0 0).toNat % 2 ^ n : Nat) : Int)), .int (am_i n)] [] M = some (some (.int (am_i (A 1 0 0))), M) := by
    intro m
    induction m with
    | zero =>
      intro n hn
      have : n = nP X := by omega
      subst this
      rw [t169_4]
      simp (disch := omega) only [am_ob_p (kk_187 S), m_personMany S HX, am_bI_p, am_br_ge]
      rw [if_pos (by omega)]
      have : (((A 1 0 0).toNat % 2 ^ nP X : Nat) : Int) = A 1 0 0 := by
        rw [Nat.mod_eq_of_lt (by omega)]; omega
      rw [this]
    | succ m ih =>
      intro n hn
      obtain ⟨k1, k2⟩ := bit_3 ⟨(A 1 0 0).toNat, by omega⟩ ⟨n, by omega⟩
      have h01 := prs_01 A n
      have e : prs A n = (((A 1 0 0).toNat / 2 ^ n % 2 : Nat) : Int) := by
        unfold prs
        have : A 1 0 0 = ((A 1 0 0).toNat : Int) := by omega
        rw [this]; rfl
      rw [t169_4]
      simp (disch := omega) only [am_ob_p (kk_187 S), m_personMany S HX, am_bI_p, am_br_ge, m_doesPress S HA, am_br_eq]
      rw [if_neg (by omega)]
      have := ih (n + 1) (by omega)
      rcases h01 with g | g
      · rw [if_pos g, am_i_add]
        rw [← k2 (by show (A 1 0 0).toNat / 2 ^ n % 2 = 0; omega)] at this
        exact this
      · rw [if_neg (by omega), am_i_add]
        rw [← k1 (by show (A 1 0 0).toNat / 2 ^ n % 2 = 1; omega)] at this
        exact this
  rw [t169]
  have := key (nP X) 0 (by omega)
  rw [show ((A 1 0 0).toNat % 2 ^ 0 : Nat) = 0 by simp [Nat.mod_one]] at this
  exact this
theorem m_hoursGo {L : Nat} {q : am_Pq} {M : am_M} (S : am_Sh L q M) {X : am_X} {G : am_Gf} {A : am_A} {K : List Int} {th : Nat} (HX : mH M X) (HG : mG M G) (HA : mA M A) (HK : th = 0 → mK M K) (h60 : am_I M 187 60 = am_i th) (hth : th ≤ 1) (B : hB X) (BG : gB G) (BA : aB X A) {n : Nat} (hn : n ≤ 100) (hn2 : A 0 0 0 + n ≤ 23999) (d : Nat) :
    ∃ M', am_cl 187 (d + 7) [.ref 187, .int (am_i n)] M = some (some (.int (am_i (hsum X G (A, qz, K) n))), M') ∧ am_Sh L q M' ∧ fr (pH th) M M' ∧ mHs M' 0 (hours X G (A, qz, K) n) th := by
  have zero : ∀ m k : Nat, k + m = 5 → ∀ (M1 : am_M), am_Sh L q M1 → fr (fun b _ => b = 232 ∨ b = 233) M M1 → (∀ p, p < k → am_L M1 232 p = am_l 0 ∧ am_I M1 233 p = am_i 0) →
      ∃ M', am_ev 187 (d + 7) 4 [.ref 187, .int (am_i n), .int (am_i 0), .int (am_i k)] [] M1 = am_ev 187 (d + 7) 31 [.ref 187, .int (am_i n), .int (am_i 0), .int (am_i 0)] [] M' ∧ am_Sh L q M' ∧ fr (fun b _ => b = 232 ∨ b = 233) M M' ∧ (∀ p, p < 5 → am_L M' 232 p = am_l 0 ∧ am_I M' 233 p = am_i 0) := by
    intro m
    induction m with
    | zero =>
      intro k hk M1 S1 f1 h0
      refine ⟨M1, ?_, S1, f1, fun p hp => h0 p (by omega)⟩
      rw [t187_4, am_br_ge (by omega) (by omega) (by omega) (by omega), if_pos (by omega)]
    | succ m ih =>
      intro k hk M1 S1 f1 h0
      obtain ⟨M', r, hR⟩ := ih (k + 1) (by omega) _ ((S1.sL 232 k (am_l 0)).sI 233 k (am_i 0)) (fr_tr f1 (fr_tr (fr_sL (Or.inl rfl)) (fr_sI (Or.inr rfl)))) (fun p hp => by
        by_cases g : p = k
        · subst g
          exact ⟨by rw [am_L_sI', am_L_same], am_I_same _ _ _ _⟩
        · rw [am_L_sI', am_L_ne2 g, am_I_ne2 g, am_I_sL']
          exact h0 p (by omega))
      refine ⟨M', ?_, hR⟩
      rw [t187_4, am_br_ge (by omega) (by omega) (by omega) (by omega), if_neg (by omega)]
      simp (disch := omega) only [am_ob_p (kk_187 S1), rr_187_62 S1, rr_187_63 S1, am_iw_p (kk_232 S1), am_iw_p (kk_233 S1), am_gr_p, am_i_ix, Int.toNat_zero, Int.toNat_one, Int.toNat_natCast, Int.reduceToNat, am_lt, am_i_add, am_i_sub, am_i_mul, am_ob_sI, am_ix_sI, am_iw_sI, am_iq_sI, am_R_sI', am_ob_sL, am_ix_sL, am_iw_sL, am_iq_sL, am_R_sL', am_I_same, am_I_ne1, am_I_ne2, am_L_same, am_L_ne1, am_L_ne2, am_L_sI', am_I_sL']
      exact r
  obtain ⟨M1, r1, S1, f1, h0⟩ := zero 5 0 (by omega) M S (fr_rfl _ _) (fun p hp => absurd hp (by omega))
  have f1' : fr (pH th) M M1 := fr_mono f1 (fun b k h => by unfold pH; omega)
  have key : ∀ m k : Nat, k + m = n → ∀ (M1 : am_M), am_Sh L q M1 → fr (pH th) M M1 → mHs M1 0 (hours X G (A, qz, K) k) th →
      ∃ M', am_ev 187 (d + 7) 31 [.ref 187, .int (am_i n), .int (am_i (hsum X G (A, qz, K) k)), .int (am_i k)] [] M1 = some (some (.int (am_i (hsum X G (A, qz, K) n))), M') ∧ am_Sh L q M' ∧ fr (pH th) M M' ∧ mHs M' 0 (hours X G (A, qz, K) n) th := by
    intro m
    induction m with
    | zero =>
      intro k hk M1 S1 f1 Hs
      have : k = n := by omega
      subst this
      refine ⟨M1, ?_, S1, f1, Hs⟩
      rw [t187_31, am_br_ge (by omega) (by omega) (by omega) (by omega), if_pos (by omega)]
    | succ m ih =>
      intro k hk M1 S1 f1 Hs
      have hb := (hours_bd (G := G) (s := (A, qz, K)) B BA k (by show A 0 0 0 + k ≤ 23999; omega)).1
      obtain ⟨M2, r2, S2, f2, Hs2⟩ := m_hourGoes (s := hours X G (A, qz, K) k) S1 (mH_mv HX B (fun b k h1 h2 h3 => (f1 b k (by unfold pH; omega)).1)) (mG_mv HG (fun b k h1 h2 h3 h4 => (f1 b k (by unfold pH; omega)).1)) Hs.1 Hs.2.1 Hs.2.2.1 Hs.2.2.2 hth B BG hb d
      obtain ⟨M', r, hR⟩ := ih (k + 1) (by omega) M2 S2 (fr_tr f1 f2) ⟨Hs2.1, Hs2.2.1, ⟨Hs2.2.2.1.1, Hs2.2.2.1.2.1, fun p hp => absurd hp (by omega)⟩, Hs2.2.2.2⟩
      refine ⟨M', ?_, hR⟩
      rw [t187_31, am_br_ge (by omega) (by omega) (by omega) (by omega), if_neg (by omega), am_ob_p (kk_187 S1), r2, am_bI_p, am_i_add, am_i_add]
      exact r
  obtain ⟨M', r, hR⟩ := key n 0 (by omega) M1 S1 f1' ⟨mA_mv HA (fun k hk => (f1 229 k (by omega)).1), fun h => mK_mv (HK h) (fun k hk => (f1 229 k (by omega)).1), ⟨fun p hp => (h0 p hp).1, fun p hp => (h0 p hp).2, fun p hp => absurd hp (by omega)⟩, by rw [(f1 187 60 (by omega)).1]; exact h60⟩
  refine ⟨M', ?_, hR⟩
  rw [t187]
  exact r1.trans r
