/-! The class: an hour goes by. -/
/-- a course holds an hour's state -/
def cHs (M : am_M) (c : Nat) (s : am_Hs) (bk : Nat) : Prop := cA M (c + 1) s.1 ∧ cK M (c + 1) s.2.2 bk ∧ cQ M c s.2.1 ∧ cS M c s.2.1
theorem cQ_mv {M M' : am_M} {c : Nat} {Q : am_Qh} (H : cQ M c Q) (e : ∀ b k, b = c + 6 ∨ b = c + 7 → am_I M' b k = am_I M b k) : cQ M' c Q := ⟨fun p hp => (e _ _ (Or.inl rfl)).trans (H.1 p hp), fun p hp => (e _ _ (Or.inr rfl)).trans (H.2 p hp)⟩
theorem cS_mv {M M' : am_M} {c : Nat} {Q : am_Qh} (H : cS M c Q) (e : am_I M' c 4 = am_I M c 4) : cS M' c Q := by
  obtain ⟨m, h1, h2, h3⟩ := H
  exact ⟨m, h1, e.trans h2, h3⟩
theorem cHs_mv {M M' : am_M} {c : Nat} {s : am_Hs} {bk : Nat} (H : cHs M c s bk) (hc : isC c) (e : ∀ b k, c ≤ b → b < c + 9 → am_I M' b k = am_I M b k) : cHs M' c s bk := by
  have hc' : c = 63 ∨ c = 75 := hc
  obtain ⟨h1, h2, h3, h4⟩ := H
  exact ⟨cA_mv h1 (fun b k g1 g2 g3 => e b k (by omega) (by omega)), cK_mv h2 (e _ _ (by omega) (by omega)) (fun k => e _ _ (by omega) (by omega)), cQ_mv h3 (fun b k g => e b k (by omega) (by omega)), cS_mv h4 (e _ _ (by omega) (by omega))⟩
theorem cK_le {M : am_M} {a : Nat} {K : List Int} {b b' : Nat} (H : cK M a K b) (h : b ≤ b') : cK M a K b' := by
  obtain ⟨e, h1, h2⟩ := H
  exact ⟨e, Nat.le_trans h1 h, h2⟩
set_option maxHeartbeats 4000000 in
theorem c_passHour {L : Nat} {q0' : am_Pq} {M : am_M} {c h : Nat} (S : am_Sh L q0' M) (hc : isC c) (hh : isH h) (hch : am_R M c 0 = some h) {X : am_X} {G : am_Gf} {s : am_Hs} {bk : Nat} (HX : cH M h X) (HG : cG M h G) (HA : cA M (c + 1) s.1) (HK : cK M (c + 1) s.2.2 bk) (HQ : cQ M c s.2.1) (hbk : bk < 1900000000) (B : hB X) (BG : gB G) (BA : aB X s.1) (d : Nat) :
    ∃ M', am_cl 73 (d + 5) [.ref c] M = some (some (.int (am_i ((hour X G s).2.1 3 0))), M') ∧ am_Sh L q0' M' ∧ fr (pC c) M M' ∧ cHs M' c (hour X G s) (bk + 5) := by
  have hF8 := hB_F B
  obtain ⟨hPP, hP5⟩ := hB_P B
  have hc' : c = 63 ∨ c = 75 := hc
  have hh' : h = 4 ∨ h = 38 := hh
  have bt := aB_t BA
  have bsc := hB_sc B
  have hsub : ∀ b k, pW c b k → pC c b k := fun b k g => by unfold pW pS at g; unfold pC; omega
  have hsubF : ∀ b k, pF c b k → pC c b k := fun b k g => by unfold pF at g; unfold pC; omega
  obtain ⟨A, Q, K⟩ := s
  have key : ∀ m n : Nat, n + m = nP X → ∀ (M : am_M) (v4 : Value), am_Sh L q0' M → am_R M c 0 = some h → cH M h X → cG M h G → cHs M c (hPs X G (A, q0 Q, K) n) (bk + n) →
      ∃ M', am_ev 73 (d + 5) 20 [.ref c, .int (am_i ((hPs X G (A, q0 Q, K) n).2.1 3 0)), .int (am_i (A 0 0 0 % 24)), .int (am_i n), v4] [] M = some (some (.int (am_i ((hour X G (A, Q, K)).2.1 3 0))), M') ∧ am_Sh L q0' M' ∧ fr (pC c) M M' ∧ cHs M' c (hour X G (A, Q, K)) (bk + 5) := by
    intro m
    induction m with
    | zero =>
      intro n hn M v4 S hch HX HG Hs
      have hn' : n = nP X := by omega
      subst hn'
      obtain ⟨HA, HK, HQ, HS⟩ := Hs
      have e2 := HX.1 2 (by decide)
      have hB1 := hPs_bd (G := G) (s := (A, q0 Q, K)) B BA (nP X) (Nat.le_refl _)
      have ht := hPs_time X G (A, q0 Q, K) (nP X)
      have hhr : (hour X G (A, Q, K)).2 = (hPs X G (A, q0 Q, K) (nP X)).2 := rfl
      have hhA : (hour X G (A, Q, K)).1 = tick (fadeA X G (hPs X G (A, q0 Q, K) (nP X)).1) := rfl
      generalize hPs X G (A, q0 Q, K) (nP X) = s1 at *
      have ht' : s1.1 0 0 0 = A 0 0 0 := ht
      have fin : ∀ (M1 : am_M) (v2 v3 v4 : Value), am_Sh L q0' M1 → fr (pC c) M M1 → cA M1 (c + 1) (fadeA X G s1.1) → (∀ b k, b ≠ c + 2 → b ≠ c + 9 → b ≠ c + 10 → am_I M1 b k = am_I M b k) →
          ∃ M', am_ev 73 (d + 5) 138 [.ref c, .int (am_i (s1.2.1 3 0)), v2, v3, v4] [] M1 = some (some (.int (am_i ((hour X G (A, Q, K)).2.1 3 0))), M') ∧ am_Sh L q0' M' ∧ fr (pC c) M M' ∧ cHs M' c (hour X G (A, Q, K)) (bk + 5) := by
        intro M1 v2 v3 v4 S1 f1 HA1 hI
        have e0 := HA1.1
        refine ⟨_, ?_, S1.sI (c + 1) 0 (am_i (fadeA X G s1.1 0 0 0 + 1)), fr_tr f1 (fr_sI (by unfold pC; omega)), ?_, ?_, ?_, ?_⟩
        · rw [t73_138]
          simp (disch := omega) only [am_ob_p (C_k0 S1 hc), am_ob_p (C_k1 S1 hc), am_ob_p (C_k8 S1 hc), am_ix_p (C_k2 S1 hc), am_iw_p (C_k2 S1 hc), am_ix_p (C_k3 S1 hc), am_iw_p (C_k3 S1 hc), am_ix_p (C_k4 S1 hc), am_iw_p (C_k4 S1 hc), am_ix_p (C_k5 S1 hc), am_iw_p (C_k5 S1 hc), am_ix_p (C_k6 S1 hc), am_iw_p (C_k6 S1 hc), am_ix_p (C_k7 S1 hc), am_iw_p (C_k7 S1 hc), am_ix_p (C_k9 S1 hc), am_iw_p (C_k9 S1 hc), am_ix_p (C_k10 S1 hc), am_iw_p (C_k10 S1 hc), am_ix_p (C_k11 S1 hc), am_iw_p (C_k11 S1 hc), C_r0_1 S1 hc, C_r0_2 S1 hc, C_r0_3 S1 hc, C_r0_5 S1 hc, C_r1_2 S1 hc, C_r1_3 S1 hc, C_r1_4 S1 hc, C_r1_5 S1 hc, C_r8_0 S1 hc, C_r8_1 S1 hc, C_r8_2 S1 hc, am_gr_p, am_i_ix, Int.toNat_zero, Int.toNat_one, Int.toNat_natCast, Int.reduceToNat, am_lt, am_i_add, am_i_sub, am_i_mul, e0, hhr]
        · rw [hhA]
          exact cA_w0 HA1 _
        · rw [hhr]
          exact cK_le (cK_mv HK (by rw [am_I_ne2 (by omega)]; exact hI _ _ (by omega) (by omega) (by omega)) (fun k => by rw [am_I_ne1 (by omega)]; exact hI _ _ (by omega) (by omega) (by omega))) (by omega)
        · rw [hhr]
          exact cQ_mv HQ (fun b k g => by rw [am_I_ne1 (by omega)]; exact hI _ _ (by omega) (by omega) (by omega))
        · rw [hhr]
          exact cS_mv HS (by rw [am_I_ne1 (by omega)]; exact hI _ _ (by omega) (by omega) (by omega))
      rw [t73_20]
      simp (disch := omega) only [am_ob_p (C_k0 S hc), am_ob_p (C_k1 S hc), am_ob_p (C_k8 S hc), am_ix_p (C_k2 S hc), am_iw_p (C_k2 S hc), am_ix_p (C_k3 S hc), am_iw_p (C_k3 S hc), am_ix_p (C_k4 S hc), am_iw_p (C_k4 S hc), am_ix_p (C_k5 S hc), am_iw_p (C_k5 S hc), am_ix_p (C_k6 S hc), am_iw_p (C_k6 S hc), am_ix_p (C_k7 S hc), am_iw_p (C_k7 S hc), am_ix_p (C_k9 S hc), am_iw_p (C_k9 S hc), am_ix_p (C_k10 S hc), am_iw_p (C_k10 S hc), am_ix_p (C_k11 S hc), am_iw_p (C_k11 S hc), C_r0_1 S hc, C_r0_2 S hc, C_r0_3 S hc, C_r0_5 S hc, C_r1_2 S hc, C_r1_3 S hc, C_r1_4 S hc, C_r1_5 S hc, C_r8_0 S hc, C_r8_1 S hc, C_r8_2 S hc, hch, am_ob_p (H_k0 S hh), am_ix_p (H_k1 S hh), am_iw_p (H_k1 S hh), am_ix_p (H_k6 S hh), am_iw_p (H_k6 S hh), am_ix_p (H_k16 S hh), am_iw_p (H_k16 S hh), am_ix_p (H_k17 S hh), am_iw_p (H_k17 S hh), am_ix_p (H_k24 S hh), am_iw_p (H_k24 S hh), H_r0_0 S hh, H_r0_1 S hh, H_r0_2 S hh, H_r0_3 S hh, H_r0_4 S hh, H_r0_5 S hh, H_r0_6 S hh, H_r0_15 S hh, H_r2 S hh, H_r7 S hh, H_r18 S hh, am_iq_p (H_k2 S hh), am_iq_p (H_k7 S hh), am_iq_p (H_k18 S hh), am_gr_p, am_i_ix, Int.toNat_zero, Int.toNat_one, Int.toNat_natCast, Int.reduceToNat, am_lt, am_i_add, am_i_sub, am_i_mul, e2, am_br_ge]
      rw [if_pos (by omega)]
      cases hG : G 1 with
      | none =>
        have e := cG_none HG (j := 1) (by decide) hG
        have e' : am_I M h 13 = am_i (-1) := e
        simp (disch := omega) only [e', am_br_eq]
        rw [if_pos trivial]
        exact fin M _ _ _ S (fr_rfl _ _) (by unfold fadeA; rw [hG]; exact HA) (fun _ _ _ _ _ => rfl)
      | some l =>
        obtain ⟨o, h1, h2, h3, h4⟩ := cG_some HG (j := 1) (by decide) hG
        have h2' : am_I M h 13 = am_i o := h2
        simp (disch := omega) only [h2', am_br_eq]
        rw [if_neg (by omega)]
        obtain ⟨M1, r1, S1, f1, HA1⟩ := c_fadeAll S hc hh hch HX HG HA B BG hB1 hG (d + 1)
        rw [ht'] at r1
        rw [r1, am_bV_p]
        exact fin M1 _ _ _ S1 (fr_mono f1 (fun b k g => by unfold pC; omega)) HA1 (fun b k g1 g2 g3 => (f1 b k (by omega)).1)
    | succ m ih =>
      intro n hn M v4 S hch HX HG Hs
      have hnP : n < nP X := by omega
      obtain ⟨HA, HK, HQ, HS⟩ := Hs
      have e2 := HX.1 2 (by decide)
      have e8 : am_I M h 8 = am_i (X 8 0 0) := HX.2.2.2.2.2.2 1 (by decide)
      have hB1 := hPs_bd (G := G) (s := (A, q0 Q, K)) B BA n (by omega)
      have ht := hPs_time X G (A, q0 Q, K) n
      have h3 := hPs_3 (X := X) (G := G) (s := (A, q0 Q, K)) (show q0 Q 3 0 = 0 from if_pos (Or.inl rfl)) n
      have hsx : hPs X G (A, q0 Q, K) (n + 1) = hP X G n (hPs X G (A, q0 Q, K) n) := rfl
      have ih' := ih (n + 1) (by omega)
      rw [hsx] at ih'
      clear ih hsx
      have hsb := sug_bd (G := G) B hB1 (show n < 5 by omega)
      generalize hPs X G (A, q0 Q, K) n = s1 at *
      have ht' : s1.1 0 0 0 = A 0 0 0 := ht
      have htm : s1.1 0 0 0 % 24 = A 0 0 0 % 24 := by rw [ht']
      -- behind what is suggested
      have at54 : ∀ (M1 : am_M) (v4 : Value), am_Sh L q0' M1 → fr (pF c) M M1 → ∃ M', am_ev 73 (d + 5) 54 [.ref c, .int (am_i (s1.2.1 3 0)), .int (am_i (A 0 0 0 % 24)), .int (am_i n), v4] [.int (am_i (fnow X G s1.1 n))] M1 = some (some (.int (am_i ((hour X G (A, Q, K)).2.1 3 0))), M') ∧ am_Sh L q0' M' ∧ fr (pC c) M M' ∧ cHs M' c (hour X G (A, Q, K)) (bk + 5) := by
        intro M1 v4 S1 f1
        have hch1 : am_R M1 c 0 = some h := by rw [Sh_R S S1 (by omega) (by omega)]; exact hch
        have HX1 := cH_mv (M' := M1) HX B (fun b k h1 h2 => (f1 b k (by unfold pF; omega)).1)
        have HG1 := cG_mv (M' := M1) HG (fun b k h1 h2 => (f1 b k (by unfold pF; omega)).1)
        have HA1 := cA_mv (M' := M1) HA (fun b k h1 h2 h3 => (f1 b k (by unfold pF; omega)).1)
        have HK1 := cK_mv (M' := M1) HK (f1 _ _ (by unfold pF; omega)).1 (fun k => (f1 _ _ (by unfold pF; omega)).1)
        have HQ1 := cQ_mv (M' := M1) HQ (fun b k g => (f1 b k (by unfold pF; omega)).1)
        have HS1 := cS_mv (M' := M1) HS (f1 _ _ (by unfold pF; omega)).1
        have e81 : am_I M1 h 8 = am_i (X 8 0 0) := HX1.2.2.2.2.2.2 1 (by decide)
        have go : ∀ (M2 : am_M) (v4 : Value) (x1 : Int), am_Sh L q0' M2 → fr (pC c) M1 M2 → x1 = (hP X G n s1).2.1 3 0 → cHs M2 c (hP X G n s1) (bk + (n + 1)) → ∃ M', am_ev 73 (d + 5) 20 [.ref c, .int (am_i x1), .int (am_i (A 0 0 0 % 24)), .int (am_i ((n : Int) + 1)), v4] [] M2 = some (some (.int (am_i ((hour X G (A, Q, K)).2.1 3 0))), M') ∧ am_Sh L q0' M' ∧ fr (pC c) M M' ∧ cHs M' c (hour X G (A, Q, K)) (bk + 5) := by
          intro M2 v4 x1 S2 f2 hx1 Hs2
          obtain ⟨M', r, S', f', Hs'⟩ := ih' M2 v4 S2 (by rw [Sh_R S S2 (by omega) (by omega)]; exact hch) (cH_mv HX1 B (fun b k h1 h2 => (f2 b k (by unfold pC; omega)).1)) (cG_mv HG1 (fun b k h1 h2 => (f2 b k (by unfold pC; omega)).1)) Hs2
          subst hx1
          exact ⟨M', r, S', fr_tr (fr_tr (fr_mono f1 hsubF) f2) f', Hs'⟩
        have hfb : -1 ≤ fnow X G s1.1 n ∧ fnow X G s1.1 n < nF X ∧ (fnow X G s1.1 n ≠ -1 → s1.1 3 (prof s1.1 n) (fnow X G s1.1 n).toNat < X 2 (fnow X G s1.1 n).toNat 0) := by
          unfold fnow
          split
          · exact hsb
          · exact ⟨by decide, by omega, fun h => absurd rfl h⟩
        rw [t73_54, am_br_eq (by omega) (by omega) (by omega) (by omega)]
        by_cases g1 : fnow X G s1.1 n = -1
        · have hP1 : hP X G n s1 = (s1.1, uq s1.2.1 2 n (-1), s1.2.2) := if_pos g1
          rw [if_pos g1, t73_86, am_br_eq (by omega) (by omega) (by omega) (by omega), if_pos g1]
          simp only [am_i_add]
          refine go M1 _ _ S1 (fr_rfl _ _) (by rw [hP1]; dsimp only; rw [uq_ne (by omega)]) ?_
          rw [hP1]
          exact ⟨HA1, cK_le HK1 (by omega), ⟨fun p hp => by show _ = am_i (uq s1.2.1 2 n (-1) 0 p); rw [uq_ne (by omega)]; exact HQ1.1 p hp, fun p hp => by show _ = am_i (uq s1.2.1 2 n (-1) 1 p); rw [uq_ne (by omega)]; exact HQ1.2 p hp⟩, by
            obtain ⟨m, k1, k2, k3⟩ := HS1
            exact ⟨m, k1, k2, fun f hf => by show _ = uq s1.2.1 2 n (-1) 4 f; rw [uq_ne (by omega)]; exact k3 f hf⟩⟩
        · rw [if_neg g1]
          simp (disch := omega) only [am_ob_p (C_k0 S1 hc), am_ob_p (C_k1 S1 hc), am_ob_p (C_k8 S1 hc), am_ix_p (C_k2 S1 hc), am_iw_p (C_k2 S1 hc), am_ix_p (C_k3 S1 hc), am_iw_p (C_k3 S1 hc), am_ix_p (C_k4 S1 hc), am_iw_p (C_k4 S1 hc), am_ix_p (C_k5 S1 hc), am_iw_p (C_k5 S1 hc), am_ix_p (C_k6 S1 hc), am_iw_p (C_k6 S1 hc), am_ix_p (C_k7 S1 hc), am_iw_p (C_k7 S1 hc), am_ix_p (C_k9 S1 hc), am_iw_p (C_k9 S1 hc), am_ix_p (C_k10 S1 hc), am_iw_p (C_k10 S1 hc), am_ix_p (C_k11 S1 hc), am_iw_p (C_k11 S1 hc), C_r0_1 S1 hc, C_r0_2 S1 hc, C_r0_3 S1 hc, C_r0_5 S1 hc, C_r1_2 S1 hc, C_r1_3 S1 hc, C_r1_4 S1 hc, C_r1_5 S1 hc, C_r8_0 S1 hc, C_r8_1 S1 hc, C_r8_2 S1 hc, hch1, am_ob_p (H_k0 S1 hh), am_ix_p (H_k1 S1 hh), am_iw_p (H_k1 S1 hh), am_ix_p (H_k6 S1 hh), am_iw_p (H_k6 S1 hh), am_ix_p (H_k16 S1 hh), am_iw_p (H_k16 S1 hh), am_ix_p (H_k17 S1 hh), am_iw_p (H_k17 S1 hh), am_ix_p (H_k24 S1 hh), am_iw_p (H_k24 S1 hh), H_r0_0 S1 hh, H_r0_1 S1 hh, H_r0_2 S1 hh, H_r0_3 S1 hh, H_r0_4 S1 hh, H_r0_5 S1 hh, H_r0_6 S1 hh, H_r0_15 S1 hh, H_r2 S1 hh, H_r7 S1 hh, H_r18 S1 hh, am_iq_p (H_k2 S1 hh), am_iq_p (H_k7 S1 hh), am_iq_p (H_k18 S1 hh), am_gr_p, am_i_ix, Int.toNat_zero, Int.toNat_one, Int.toNat_natCast, Int.reduceToNat, am_lt, am_i_add, am_i_sub, am_i_mul, e81, am_br_lt]
          by_cases g2 : X 8 0 0 ≤ s1.2.1 3 0
          · have hP1 : hP X G n s1 = (s1.1, uq (uq s1.2.1 2 n (-1)) 1 n (s1.2.1 1 n + 1), s1.2.2) := by unfold hP; rw [if_neg g1, if_pos g2]
            have e7 := HQ1.2 n (by omega)
            rw [if_neg (by omega)]
            simp (disch := omega) only [e7, am_i_add]
            refine go _ _ _ (S1.sI _ _ _) (fr_sI (by unfold pC; omega)) (by rw [hP1]; show _ = uq (uq s1.2.1 2 n (-1)) 1 n (s1.2.1 1 n + 1) 3 0; rw [uq_ne (by omega), uq_ne (by omega)]) ?_
            rw [hP1]
            refine ⟨cA_mv HA1 (fun b k h1 h2 h3 => am_I_ne1 (by omega)), cK_le (cK_mv HK1 (am_I_ne1 (by omega)) (fun k => am_I_ne1 (by omega))) (by omega), ⟨fun p hp => ?_, fun p hp => ?_⟩, ?_⟩
            · show _ = am_i (uq (uq s1.2.1 2 n (-1)) 1 n (s1.2.1 1 n + 1) 0 p)
              rw [am_I_ne1 (by omega), uq_ne (by omega), uq_ne (by omega)]
              exact HQ1.1 p hp
            · show _ = am_i (uq (uq s1.2.1 2 n (-1)) 1 n (s1.2.1 1 n + 1) 1 p)
              by_cases g3 : p = n
              · subst g3
                rw [am_I_same, uq_eq]
              · rw [am_I_ne2 g3, uq_ne (by omega), uq_ne (by omega)]
                exact HQ1.2 p hp
            · obtain ⟨m, k1, k2, k3⟩ := HS1
              exact ⟨m, k1, by rw [am_I_ne1 (by omega)]; exact k2, fun f hf => by show _ = uq (uq s1.2.1 2 n (-1)) 1 n (s1.2.1 1 n + 1) 4 f; rw [uq_ne (by omega), uq_ne (by omega)]; exact k3 f hf⟩
          · have hP1 : hP X G n s1 = (watch X G s1.1 n (fnow X G s1.1 n).toNat, uq (uq (uq (uq s1.2.1 2 n (fnow X G s1.1 n)) 0 n (s1.2.1 0 n + plz X s1.1 n (fnow X G s1.1 n).toNat)) 4 (fnow X G s1.1 n).toNat 1) 3 0 (s1.2.1 3 0 + 1), kpush s1.2.2 (rowc s1.1 n (fnow X G s1.1 n).toNat)) := by unfold hP; rw [if_neg g1, if_neg g2]
            have hfn : ∃ f : Nat, fnow X G s1.1 n = f ∧ f < nF X ∧ s1.1 3 (prof s1.1 n) f < X 2 f 0 := ⟨(fnow X G s1.1 n).toNat, by omega, by omega, hfb.2.2 g1⟩
            obtain ⟨f, hf, hf1, hf2⟩ := hfn
            rw [hf] at hP1 g1 ⊢
            rw [Int.toNat_natCast] at hP1
            obtain ⟨M2, r2, S2, f2, HA2, HK2, h62⟩ := c_watch S1 hc hh hch1 HX1 HG1 HA1 HK1 (by omega) B BG hB1 hnP hf1 hf2 (d)
            rw [if_pos (by omega), t73_86, am_br_eq (by omega) (by omega) (by omega) (by omega), if_neg g1, am_ob_p (C_k0 S1 hc), r2, am_bI_p]
            simp (disch := omega) only [am_ob_p (C_k0 S2 hc), am_ob_p (C_k1 S2 hc), am_ob_p (C_k8 S2 hc), am_ix_p (C_k2 S2 hc), am_iw_p (C_k2 S2 hc), am_ix_p (C_k3 S2 hc), am_iw_p (C_k3 S2 hc), am_ix_p (C_k4 S2 hc), am_iw_p (C_k4 S2 hc), am_ix_p (C_k5 S2 hc), am_iw_p (C_k5 S2 hc), am_ix_p (C_k6 S2 hc), am_iw_p (C_k6 S2 hc), am_ix_p (C_k7 S2 hc), am_iw_p (C_k7 S2 hc), am_ix_p (C_k9 S2 hc), am_iw_p (C_k9 S2 hc), am_ix_p (C_k10 S2 hc), am_iw_p (C_k10 S2 hc), am_ix_p (C_k11 S2 hc), am_iw_p (C_k11 S2 hc), C_r0_1 S2 hc, C_r0_2 S2 hc, C_r0_3 S2 hc, C_r0_5 S2 hc, C_r1_2 S2 hc, C_r1_3 S2 hc, C_r1_4 S2 hc, C_r1_5 S2 hc, C_r8_0 S2 hc, C_r8_1 S2 hc, C_r8_2 S2 hc, am_lt, am_i_add]
            have S3 := S2.sI c 4 (am_I M2 c 4 ||| (am_i 1) <<< ((am_i (f : Int)) &&& 31))
            refine go _ _ _ S3 (fr_tr (fr_mono f2 hsub) (fr_sI (by unfold pC; omega))) (by rw [hP1]; dsimp only; rw [uq_eq]) ?_
            rw [hP1]
            refine ⟨cA_mv HA2 (fun b k h1 h2 h3 => am_I_ne1 (by omega)), cK_le (cK_mv HK2 (am_I_ne1 (by omega)) (fun k => am_I_ne1 (by omega))) (by omega), ⟨fun p hp => ?_, fun p hp => ?_⟩, ?_⟩
            · show _ = am_i (uq (uq (uq (uq s1.2.1 2 n (f : Int)) 0 n (s1.2.1 0 n + plz X s1.1 n f)) 4 f 1) 3 0 (s1.2.1 3 0 + 1) 0 p)
              rw [am_I_ne1 (by omega), h62 p, uq_ne (by omega), uq_ne (by omega)]
              by_cases g3 : p = n
              · subst g3
                rw [if_pos rfl, uq_eq, HQ1.1 p hp, am_i_add]
              · rw [if_neg g3, uq_ne (by omega), uq_ne (by omega)]
                exact HQ1.1 p hp
            · show _ = am_i (uq (uq (uq (uq s1.2.1 2 n (f : Int)) 0 n (s1.2.1 0 n + plz X s1.1 n f)) 4 f 1) 3 0 (s1.2.1 3 0 + 1) 1 p)
              rw [am_I_ne1 (by omega), (f2 (c + 7) p (by unfold pW pS; omega)).1, uq_ne (by omega), uq_ne (by omega), uq_ne (by omega), uq_ne (by omega)]
              exact HQ1.2 p hp
            · refine cS_or (M := M1) (Q := s1.2.1) (f := f) HS1 (by omega) (by rw [am_I_same, (f2 c 4 (by unfold pW pS; omega)).1]) (fun g hg => ?_)
              show uq (uq (uq (uq s1.2.1 2 n (f : Int)) 0 n (s1.2.1 0 n + plz X s1.1 n f)) 4 f 1) 3 0 (s1.2.1 3 0 + 1) 4 g = _
              rw [uq_ne (by omega)]
              by_cases g3 : g = f
              · subst g3
                rw [if_pos rfl, uq_eq]
              · rw [if_neg g3, uq_ne (by omega), uq_ne (by omega), uq_ne (by omega)]
      rw [t73_20]
      simp (disch := omega) only [am_ob_p (C_k0 S hc), am_ob_p (C_k1 S hc), am_ob_p (C_k8 S hc), am_ix_p (C_k2 S hc), am_iw_p (C_k2 S hc), am_ix_p (C_k3 S hc), am_iw_p (C_k3 S hc), am_ix_p (C_k4 S hc), am_iw_p (C_k4 S hc), am_ix_p (C_k5 S hc), am_iw_p (C_k5 S hc), am_ix_p (C_k6 S hc), am_iw_p (C_k6 S hc), am_ix_p (C_k7 S hc), am_iw_p (C_k7 S hc), am_ix_p (C_k9 S hc), am_iw_p (C_k9 S hc), am_ix_p (C_k10 S hc), am_iw_p (C_k10 S hc), am_ix_p (C_k11 S hc), am_iw_p (C_k11 S hc), C_r0_1 S hc, C_r0_2 S hc, C_r0_3 S hc, C_r0_5 S hc, C_r1_2 S hc, C_r1_3 S hc, C_r1_4 S hc, C_r1_5 S hc, C_r8_0 S hc, C_r8_1 S hc, C_r8_2 S hc, hch, am_ob_p (H_k0 S hh), am_ix_p (H_k1 S hh), am_iw_p (H_k1 S hh), am_ix_p (H_k6 S hh), am_iw_p (H_k6 S hh), am_ix_p (H_k16 S hh), am_iw_p (H_k16 S hh), am_ix_p (H_k17 S hh), am_iw_p (H_k17 S hh), am_ix_p (H_k24 S hh), am_iw_p (H_k24 S hh), H_r0_0 S hh, H_r0_1 S hh, H_r0_2 S hh, H_r0_3 S hh, H_r0_4 S hh, H_r0_5 S hh, H_r0_6 S hh, H_r0_15 S hh, H_r2 S hh, H_r7 S hh, H_r18 S hh, am_iq_p (H_k2 S hh), am_iq_p (H_k7 S hh), am_iq_p (H_k18 S hh), am_gr_p, am_i_ix, Int.toNat_zero, Int.toNat_one, Int.toNat_natCast, Int.reduceToNat, am_lt, am_i_add, am_i_sub, am_i_mul, e2, am_br_ge]
      rw [if_neg (by omega), c_isFree S hh HX B hnP (by omega) (by omega), am_bI_p]
      have hfr : fre X n (A 0 0 0 % 24) = 0 ∨ fre X n (A 0 0 0 % 24) = 1 := by unfold fre; split <;> simp
      rw [am_br_eq (by omega) (by omega) (by omega) (by omega)]
      rcases hfr with g | g
      · rw [if_pos g]
        have hfn : fnow X G s1.1 n = -1 := by unfold fnow; rw [htm, if_neg (by omega)]
        have := at54 M v4 S (fr_rfl _ _)
        rw [hfn] at this
        exact this
      · rw [if_neg (by omega)]
        have hfn : fnow X G s1.1 n = sug X G s1.1 n := by unfold fnow; rw [htm, if_pos g]
        obtain ⟨M1, r1, S1, f1⟩ := c_suggested S hc hh hch HX HG HA B BG hB1 hnP d
        have := at54 M1 v4 S1 f1
        rw [hfn] at this
        rw [am_ob_p (C_k0 S hc), r1, am_bI_p]
        exact this
  have e0 := HA.1
  have hA : (A, Q, K).1 = A := rfl
  simp only [hA] at e0 bt
  have etm : (am_i (A 0 0 0) - am_i (A 0 0 0) / am_i 24 * am_i 24) = am_i (A 0 0 0 % 24) := am_i_rem (by omega) (by omega) (by omega) (by omega)
  have S1 := S.sI c 4 (am_i 0)
  have f1 : fr (pC c) M (am_sI M c 4 (am_i 0)) := fr_sI (by unfold pC; omega)
  have hs0 : cHs (am_sI M c 4 (am_i 0)) c (A, q0 Q, K) (bk + 0) := by
    refine ⟨cA_mv HA (fun b k h1 h2 h3 => am_I_ne1 (by omega)), cK_mv HK (am_I_ne1 (by omega)) (fun k => am_I_ne1 (by omega)), ⟨fun p hp => ?_, fun p hp => ?_⟩, ⟨0, by decide, am_I_same _ _ _ _, fun f hf => ?_⟩⟩
    · show _ = am_i (q0 Q 0 p)
      rw [am_I_ne1 (by omega)]
      exact HQ.1 p hp
    · show _ = am_i (q0 Q 1 p)
      rw [am_I_ne1 (by omega)]
      exact HQ.2 p hp
    · show _ = q0 Q 4 f
      have : q0 Q 4 f = 0 := if_pos (Or.inr rfl)
      rw [this, Nat.zero_div]; rfl
  obtain ⟨M', r, S', f', Hs'⟩ := key (nP X) 0 (by omega) _ .null S1 (by rw [Sh_R S S1 (by omega) (by omega)]; exact hch) (cH_mv HX B (fun b k h1 h2 => (f1 b k (by unfold pC; omega)).1)) (cG_mv HG (fun b k h1 h2 => (f1 b k (by unfold pC; omega)).1)) hs0
  refine ⟨M', ?_, S', fr_tr f1 f', Hs'⟩
  rw [t73]
  simp (disch := omega) only [am_ob_p (C_k0 S hc), am_ob_p (C_k1 S hc), am_ob_p (C_k8 S hc), am_ix_p (C_k2 S hc), am_iw_p (C_k2 S hc), am_ix_p (C_k3 S hc), am_iw_p (C_k3 S hc), am_ix_p (C_k4 S hc), am_iw_p (C_k4 S hc), am_ix_p (C_k5 S hc), am_iw_p (C_k5 S hc), am_ix_p (C_k6 S hc), am_iw_p (C_k6 S hc), am_ix_p (C_k7 S hc), am_iw_p (C_k7 S hc), am_ix_p (C_k9 S hc), am_iw_p (C_k9 S hc), am_ix_p (C_k10 S hc), am_iw_p (C_k10 S hc), am_ix_p (C_k11 S hc), am_iw_p (C_k11 S hc), C_r0_1 S hc, C_r0_2 S hc, C_r0_3 S hc, C_r0_5 S hc, C_r1_2 S hc, C_r1_3 S hc, C_r1_4 S hc, C_r1_5 S hc, C_r8_0 S hc, C_r8_1 S hc, C_r8_2 S hc, am_gr_p, am_i_ix, Int.toNat_zero, Int.toNat_one, Int.toNat_natCast, Int.reduceToNat, am_lt, am_i_add, am_i_sub, am_i_mul, am_ob_sI, am_ix_sI, am_iw_sI, am_iq_sI, am_R_sI', am_ob_sL, am_ix_sL, am_iw_sL, am_iq_sL, am_R_sL', am_I_same, am_I_ne1, am_I_ne2, am_L_same, am_L_ne1, am_L_ne2, am_L_sI', am_I_sL', e0, etm, am_if_f am_i24]
  exact r
