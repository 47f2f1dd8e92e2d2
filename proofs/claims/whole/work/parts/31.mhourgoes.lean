/-! The reference: an hour goes by. -/
def mQ (M : am_M) (n : Nat) (Q : am_Qh) : Prop := (∀ p, p < 5 → am_L M 232 p = am_l (Q 0 p)) ∧ (∀ p, p < 5 → am_I M 233 p = am_i (Q 1 p)) ∧ (∀ p, p < n → am_I M 231 p = am_i (Q 2 p))
/-- the reference holds an hour's state; th: it is but thought -/
def mHs (M : am_M) (n : Nat) (s : am_Hs) (th : Nat) : Prop := mA M s.1 ∧ (th = 0 → mK M s.2.2) ∧ mQ M n s.2.1 ∧ am_I M 187 60 = am_i th
def pH (th b k : Nat) : Prop := (b = 229 ∧ (k < 96 ∨ th = 0)) ∨ b = 231 ∨ b = 232 ∨ b = 233 ∨ b = 259 ∨ (b = 187 ∧ (k = 53 ∨ k = 57 ∨ k = 58 ∨ k = 59 ∨ k = 98))
theorem mQ_mv {M M' : am_M} {n : Nat} {Q : am_Qh} (H : mQ M n Q) (e : ∀ b k, 231 ≤ b → b < 234 → am_I M' b k = am_I M b k ∧ am_L M' b k = am_L M b k) : mQ M' n Q := ⟨fun p hp => (e _ _ (by omega) (by omega)).2.trans (H.1 p hp), fun p hp => (e _ _ (by omega) (by omega)).1.trans (H.2.1 p hp), fun p hp => (e _ _ (by omega) (by omega)).1.trans (H.2.2 p hp)⟩
theorem mA_w1 {M : am_M} {A : am_A} (H : mA M A) (h : 0 ≤ A 0 0 0) : (A 0 0 0 % 24 < 23 → mA (am_sI M 229 1 (am_i (A 0 0 0 % 24 + 1))) (tick A)) ∧ (A 0 0 0 % 24 = 23 → mA (am_sI (am_sI (am_sI M 229 1 (am_i (A 0 0 0 % 24 + 1))) 229 1 (am_i 0)) 229 0 (am_i (A 0 0 0 / 24 + 1))) (tick A)) := by
  obtain ⟨h1, h2, h3, h4, h5, h6⟩ := H
  have ht : tick A 0 0 0 = A 0 0 0 + 1 := uA_eq _ _ _ _ _
  have hn : ∀ i j k, ¬ (i = 0 ∧ j = 0 ∧ k = 0) → tick A i j k = A i j k := fun i j k g => uA_ne g
  constructor
  · intro g
    refine ⟨?_, ?_, fun q' hq' k' hk' => ?_, fun q' hq' f' hf' => ?_, fun p hp => ?_, fun p hp => ?_⟩
    · rw [am_I_ne2 (by omega), h1, ht, show (A 0 0 0 + 1) / 24 = A 0 0 0 / 24 by omega]
    · rw [am_I_same, ht, show (A 0 0 0 + 1) % 24 = A 0 0 0 % 24 + 1 by omega]
    · rw [am_I_ne2 (by omega), hn _ _ _ (by omega)]; exact h3 q' hq' k' hk'
    · rw [am_I_ne2 (by omega), hn _ _ _ (by omega)]; exact h4 q' hq' f' hf'
    · rw [am_I_ne2 (by omega), prs_congr (hn _ _ _ (by omega))]; exact h5 p hp
    · rw [am_I_ne2 (by omega), hn _ _ _ (by omega)]; exact h6 p hp
  · intro g
    refine ⟨?_, ?_, fun q' hq' k' hk' => ?_, fun q' hq' f' hf' => ?_, fun p hp => ?_, fun p hp => ?_⟩
    · rw [am_I_same, ht, show (A 0 0 0 + 1) / 24 = A 0 0 0 / 24 + 1 by omega]
    · rw [am_I_ne2 (by omega), am_I_same, ht, show (A 0 0 0 + 1) % 24 = 0 by omega]
    · rw [am_I_ne2 (by omega), am_I_ne2 (by omega), am_I_ne2 (by omega), hn _ _ _ (by omega)]; exact h3 q' hq' k' hk'
    · rw [am_I_ne2 (by omega), am_I_ne2 (by omega), am_I_ne2 (by omega), hn _ _ _ (by omega)]; exact h4 q' hq' f' hf'
    · rw [am_I_ne2 (by omega), am_I_ne2 (by omega), am_I_ne2 (by omega), prs_congr (hn _ _ _ (by omega))]; exact h5 p hp
    · rw [am_I_ne2 (by omega), am_I_ne2 (by omega), am_I_ne2 (by omega), hn _ _ _ (by omega)]; exact h6 p hp
theorem hPs_scr {X : am_X} {G : am_Gf} {s : am_Hs} (h8 : 0 ≤ X 8 0 0) (h : s.2.1 3 0 = 0) : ∀ n : Nat, (hPs X G s n).2.1 3 0 ≤ X 8 0 0
  | 0 => by show s.2.1 3 0 ≤ _; omega
  | n + 1 => by
    have h1 := hPs_scr (X := X) (G := G) h8 h n
    show (hP X G n (hPs X G s n)).2.1 3 0 ≤ _
    unfold hP
    split
    · dsimp only
      rw [uq_ne (by omega)]; exact h1
    · split
      · dsimp only
        rw [uq_ne (by omega), uq_ne (by omega)]; exact h1
      · dsimp only
        rw [uq_eq]; omega
set_option maxHeartbeats 4000000 in
theorem m_hourGoes {L : Nat} {q0' : am_Pq} {M : am_M} (S : am_Sh L q0' M) {X : am_X} {G : am_Gf} {s : am_Hs} {th : Nat} (HX : mH M X) (HG : mG M G) (HA : mA M s.1) (HK : th = 0 → mK M s.2.2) (HQ : mQ M 0 s.2.1) (h60 : am_I M 187 60 = am_i th) (hth : th ≤ 1) (B : hB X) (BG : gB G) (BA : aB X s.1) (d : Nat) :
    ∃ M', am_cl 186 (d + 6) [.ref 187] M = some (some (.int (am_i ((hour X G s).2.1 3 0))), M') ∧ am_Sh L q0' M' ∧ fr (pH th) M M' ∧ mHs M' (nP X) (hour X G s) th := by
  have hF8 := hB_F B
  obtain ⟨hPP, hP5⟩ := hB_P B
  have bt := aB_t BA
  have bsc := hB_sc B
  obtain ⟨A, Q, K⟩ := s
  have key : ∀ m n : Nat, n + m = nP X → ∀ (M : am_M) (v3 : Value), am_Sh L q0' M → mH M X → mG M G → mHs M n (hPs X G (A, q0 Q, K) n) th →
      ∃ M', am_ev 186 (d + 6) 4 [.ref 187, .int (am_i ((hPs X G (A, q0 Q, K) n).2.1 3 0)), .int (am_i n), v3] [] M = some (some (.int (am_i ((hour X G (A, Q, K)).2.1 3 0))), M') ∧ am_Sh L q0' M' ∧ fr (pH th) M M' ∧ mHs M' (nP X) (hour X G (A, Q, K)) th := by
    intro m
    induction m with
    | zero =>
      intro n hn M v3 S HX HG Hs
      have hn' : n = nP X := by omega
      subst hn'
      obtain ⟨HA, HK, HQ, H60⟩ := Hs
      have hB1 := hPs_bd (G := G) (s := (A, q0 Q, K)) B BA (nP X) (Nat.le_refl _)
      have ht := hPs_time X G (A, q0 Q, K) (nP X)
      have hhr : (hour X G (A, Q, K)).2 = (hPs X G (A, q0 Q, K) (nP X)).2 := rfl
      have hhA : (hour X G (A, Q, K)).1 = tick (fadeA X G (hPs X G (A, q0 Q, K) (nP X)).1) := rfl
      generalize hPs X G (A, q0 Q, K) (nP X) = s1 at *
      have ht' : s1.1 0 0 0 = A 0 0 0 := ht
      obtain ⟨M1, r1, S1, f1, HA1⟩ := m_fade S HX HG HA B BG hB1 (d + 1)
      have hft : fadeA X G s1.1 0 0 0 = A 0 0 0 := by rw [fadeA_ne (by omega)]; exact ht'
      have e1 := HA1.2.1
      have e0 := HA1.1
      rw [hft] at e0 e1
      obtain ⟨w1, w2⟩ := mA_w1 HA1 (by rw [hft]; exact bt.1)
      rw [hft] at w1 w2
      have f1' : fr (pH th) M M1 := fr_mono f1 (fun b k h => by unfold pN at h; unfold pH; omega)
      have HK1 : th = 0 → mK M1 s1.2.2 := fun h => mK_mv (HK h) (fun k hk => (f1 229 k (by unfold pN; omega)).1)
      have HQ1 := mQ_mv (M' := M1) HQ (fun b k h1 h2 => f1 b k (by unfold pN; omega))
      have H601 : am_I M1 187 60 = am_i th := by rw [(f1 187 60 (by unfold pN; omega)).1]; exact H60
      rw [t186_4]
      simp (disch := omega) only [am_ob_p (kk_187 S), m_personMany S HX, am_bI_p, am_br_ge]
      rw [if_pos (by omega), r1, am_bV_p]
      simp (disch := omega) only [am_ob_p (kk_187 S1), rr_187_54 S1, am_ix_p (kk_229 S1), am_iw_p (kk_229 S1), am_gr_p, am_i_ix, Int.toNat_zero, Int.toNat_one, Int.toNat_natCast, Int.reduceToNat, am_lt, am_i_add, am_i_sub, am_i_mul, am_ob_sI, am_ix_sI, am_iw_sI, am_iq_sI, am_R_sI', am_ob_sL, am_ix_sL, am_iw_sL, am_iq_sL, am_R_sL', am_I_same, am_I_ne1, am_I_ne2, am_L_same, am_L_ne1, am_L_ne2, am_L_sI', am_I_sL', e1, am_br_ne]
      by_cases g : A 0 0 0 % 24 = 23
      · rw [if_pos (by omega)]
        simp (disch := omega) only [am_ob_p (kk_187 S1), rr_187_54 S1, am_ix_p (kk_229 S1), am_iw_p (kk_229 S1), am_gr_p, am_i_ix, Int.toNat_zero, Int.toNat_one, Int.toNat_natCast, Int.reduceToNat, am_lt, am_i_add, am_i_sub, am_i_mul, am_ob_sI, am_ix_sI, am_iw_sI, am_iq_sI, am_R_sI', am_ob_sL, am_ix_sL, am_iw_sL, am_iq_sL, am_R_sL', am_I_same, am_I_ne1, am_I_ne2, am_L_same, am_L_ne1, am_L_ne2, am_L_sI', am_I_sL', e0]
        refine ⟨_, by rw [hhr], ((S1.sI _ _ _).sI _ _ _).sI _ _ _, fr_tr f1' (fr_tr (fr_tr (fr_sI (Or.inl ⟨rfl, by omega⟩)) (fr_sI (Or.inl ⟨rfl, by omega⟩))) (fr_sI (Or.inl ⟨rfl, by omega⟩))), ?_, fun h => ?_, ?_, ?_⟩
        · rw [hhA]; exact w2 g
        · rw [hhr]; exact mK_mv (HK1 h) (fun k hk => by rw [am_I_ne2 (by omega), am_I_ne2 (by omega), am_I_ne2 (by omega)])
        · rw [hhr]; exact mQ_mv HQ1 (fun b k h1 h2 => ⟨by rw [am_I_ne1 (by omega), am_I_ne1 (by omega), am_I_ne1 (by omega)], rfl⟩)
        · rw [am_I_ne1 (by omega), am_I_ne1 (by omega), am_I_ne1 (by omega)]; exact H601
      · rw [if_neg (by omega)]
        refine ⟨_, by rw [hhr], S1.sI _ _ _, fr_tr f1' (fr_sI (Or.inl ⟨rfl, by omega⟩)), ?_, fun h => ?_, ?_, ?_⟩
        · rw [hhA]; exact w1 (by omega)
        · rw [hhr]; exact mK_mv (HK1 h) (fun k hk => by rw [am_I_ne2 (by omega)])
        · rw [hhr]; exact mQ_mv HQ1 (fun b k h1 h2 => ⟨by rw [am_I_ne1 (by omega)], rfl⟩)
        · rw [am_I_ne1 (by omega)]; exact H601
    | succ m ih =>
      intro n hn M v3 S HX HG Hs
      have hnP : n < nP X := by omega
      obtain ⟨HA, HK, HQ, H60⟩ := Hs
      have hB1 := hPs_bd (G := G) (s := (A, q0 Q, K)) B BA n (by omega)
      have ht := hPs_time X G (A, q0 Q, K) n
      have h3 := hPs_3 (X := X) (G := G) (s := (A, q0 Q, K)) (show q0 Q 3 0 = 0 from if_pos (Or.inl rfl)) n
      have hsc := hPs_scr (X := X) (G := G) (s := (A, q0 Q, K)) (by omega) (show q0 Q 3 0 = 0 from if_pos (Or.inl rfl)) n
      have hsx : hPs X G (A, q0 Q, K) (n + 1) = hP X G n (hPs X G (A, q0 Q, K) n) := rfl
      have ih' := ih (n + 1) (by omega)
      rw [hsx] at ih'
      clear ih hsx
      have hsb := sug_bd (G := G) B hB1 (show n < 5 by omega)
      generalize hPs X G (A, q0 Q, K) n = s1 at *
      have ht' : s1.1 0 0 0 = A 0 0 0 := ht
      have htm : s1.1 0 0 0 % 24 = A 0 0 0 % 24 := by rw [ht']
      have S0 := S.sI 231 n (am_i (-1))
      have f0 : fr (pH th) M (am_sI M 231 n (am_i (-1))) := fr_sI (Or.inr (Or.inl rfl))
      have HX0 := mH_mv (M' := am_sI M 231 n (am_i (-1))) HX B (fun b k h1 h2 h3 => (f0 b k (by unfold pH; omega)).1)
      have HG0 := mG_mv (M' := am_sI M 231 n (am_i (-1))) HG (fun b k h1 h2 h3 h4 => (f0 b k (by unfold pH; omega)).1)
      have HA0 := mA_mv (M' := am_sI M 231 n (am_i (-1))) HA (fun k h => am_I_ne1 (by omega))
      have HK0 : th = 0 → mK (am_sI M 231 n (am_i (-1))) s1.2.2 := fun h => mK_mv (HK h) (fun k hk => am_I_ne1 (by omega))
      have HQ0 : mQ (am_sI M 231 n (am_i (-1))) (n + 1) (uq s1.2.1 2 n (-1)) := by
        refine ⟨fun p hp => ?_, fun p hp => ?_, fun p hp => ?_⟩
        · rw [am_L_sI', uq_ne (by omega)]; exact HQ.1 p hp
        · rw [am_I_ne1 (by omega), uq_ne (by omega)]; exact HQ.2.1 p hp
        · by_cases g : p = n
          · subst g
            rw [am_I_same, uq_eq]
          · rw [am_I_ne2 g, uq_ne (by omega)]; exact HQ.2.2 p (by omega)
      have H600 : am_I (am_sI M 231 n (am_i (-1))) 187 60 = am_i th := by rw [am_I_ne1 (by omega)]; exact H60
      -- behind what is suggested
      have at42 : ∀ (M1 : am_M), am_Sh L q0' M1 → fr pM (am_sI M 231 n (am_i (-1))) M1 → ∃ M', am_ev 186 (d + 6) 42 [.ref 187, .int (am_i (s1.2.1 3 0)), .int (am_i n), v3] [.int (am_i (fnow X G s1.1 n))] M1 = some (some (.int (am_i ((hour X G (A, Q, K)).2.1 3 0))), M') ∧ am_Sh L q0' M' ∧ fr (pH th) M M' ∧ mHs M' (nP X) (hour X G (A, Q, K)) th := by
        intro M1 S1 f1
        have f1' : fr (pH th) M M1 := fr_tr f0 (fr_mono f1 (fun b k h => by unfold pM at h; unfold pH; omega))
        have HX1 := mH_mv (M' := M1) HX0 B (fun b k h1 h2 h3 => (f1 b k (by unfold pM; omega)).1)
        have HG1 := mG_mv (M' := M1) HG0 (fun b k h1 h2 h3 h4 => (f1 b k (by unfold pM; omega)).1)
        have HA1 := mA_mv (M' := M1) HA0 (fun k h => (f1 229 k (by unfold pM; omega)).1)
        have HK1 : th = 0 → mK M1 s1.2.2 := fun h => mK_mv (HK0 h) (fun k hk => (f1 229 k (by unfold pM; omega)).1)
        have HQ1 := mQ_mv (M' := M1) HQ0 (fun b k h1 h2 => f1 b k (by unfold pM; omega))
        have H601 : am_I M1 187 60 = am_i th := by rw [(f1 187 60 (by unfold pM; omega)).1]; exact H600
        have e4 : am_I M1 225 4 = am_i (X 8 0 0) := HX1.2.2.2.2.2.2 0 (by decide)
        have go : ∀ (M2 : am_M) (v3 : Value) (x1 : Int), am_Sh L q0' M2 → fr (pH th) M1 M2 → x1 = (hP X G n s1).2.1 3 0 → mHs M2 (n + 1) (hP X G n s1) th → ∃ M', am_ev 186 (d + 6) 4 [.ref 187, .int (am_i x1), .int (am_i ((n : Int) + 1)), v3] [] M2 = some (some (.int (am_i ((hour X G (A, Q, K)).2.1 3 0))), M') ∧ am_Sh L q0' M' ∧ fr (pH th) M M' ∧ mHs M' (nP X) (hour X G (A, Q, K)) th := by
          intro M2 v3 x1 S2 f2 hx1 Hs2
          obtain ⟨M', r, S', f', Hs'⟩ := ih' M2 v3 S2 (mH_mv HX1 B (fun b k h1 h2 h3 => (f2 b k (by unfold pH; omega)).1)) (mG_mv HG1 (fun b k h1 h2 h3 h4 => (f2 b k (by unfold pH; omega)).1)) Hs2
          subst hx1
          exact ⟨M', r, S', fr_tr (fr_tr f1' f2) f', Hs'⟩
        have hfb : -1 ≤ fnow X G s1.1 n ∧ fnow X G s1.1 n < nF X ∧ (fnow X G s1.1 n ≠ -1 → s1.1 3 (prof s1.1 n) (fnow X G s1.1 n).toNat < X 2 (fnow X G s1.1 n).toNat 0) := by
          unfold fnow
          split
          · exact hsb
          · exact ⟨by decide, by omega, fun h => absurd rfl h⟩
        rw [t186_42, am_br_ne (by omega) (by omega) (by omega) (by omega)]
        by_cases g1 : fnow X G s1.1 n = -1
        · have hP1 : hP X G n s1 = (s1.1, uq s1.2.1 2 n (-1), s1.2.2) := if_pos g1
          rw [if_pos g1]
          simp only [am_i_add]
          refine go M1 _ _ S1 (fr_rfl _ _) (by rw [hP1]; dsimp only; rw [uq_ne (by omega)]) ?_
          rw [hP1]
          exact ⟨HA1, HK1, HQ1, H601⟩
        · rw [if_neg g1]
          simp (disch := omega) only [am_ob_p (kk_187 S1), rr_187_47 S1, am_gr_p, am_ix_p (kk_225 S1), am_i_ix, Int.reduceToNat, e4, am_br_ne]
          by_cases g2 : X 8 0 0 ≤ s1.2.1 3 0
          · have hP1 : hP X G n s1 = (s1.1, uq (uq s1.2.1 2 n (-1)) 1 n (s1.2.1 1 n + 1), s1.2.2) := by unfold hP; rw [if_neg g1, if_pos g2]
            have e7 := HQ1.2.1 n (by omega)
            rw [uq_ne (by omega)] at e7
            by_cases g3 : s1.2.1 3 0 = X 8 0 0
            · rw [if_pos g3]
              simp (disch := omega) only [rr_187_63 S1, am_gr_p, am_ix_p (kk_233 S1), am_iw_p (kk_233 S1), am_i_ix, Int.toNat_natCast, e7, am_i_add, am_lt]
              refine go _ _ _ (S1.sI _ _ _) (fr_sI (by unfold pH; omega)) (by rw [hP1]; dsimp only; rw [uq_ne (by omega), uq_ne (by omega)]) ?_
              rw [hP1]
              refine ⟨mA_mv HA1 (fun k h => am_I_ne1 (by omega)), fun h => mK_mv (HK1 h) (fun k hk => am_I_ne1 (by omega)), ⟨fun p hp => ?_, fun p hp => ?_, fun p hp => ?_⟩, by rw [am_I_ne1 (by omega)]; exact H601⟩
              · dsimp only
                rw [am_L_sI', uq_ne (by omega)]; exact HQ1.1 p hp
              · dsimp only
                by_cases g4 : p = n
                · subst g4
                  rw [am_I_same, uq_eq]
                · rw [am_I_ne2 g4, uq_ne (by omega)]; exact HQ1.2.1 p hp
              · dsimp only
                rw [am_I_ne1 (by omega), uq_ne (by omega)]; exact HQ1.2.2 p hp
            · exfalso
              exact g3 (by omega)
          · have hP1 : hP X G n s1 = (watch X G s1.1 n (fnow X G s1.1 n).toNat, uq (uq (uq (uq s1.2.1 2 n (fnow X G s1.1 n)) 0 n (s1.2.1 0 n + plz X s1.1 n (fnow X G s1.1 n).toNat)) 4 (fnow X G s1.1 n).toNat 1) 3 0 (s1.2.1 3 0 + 1), kpush s1.2.2 (rowc s1.1 n (fnow X G s1.1 n).toNat)) := by unfold hP; rw [if_neg g1, if_neg g2]
            have hfn : ∃ f : Nat, fnow X G s1.1 n = f ∧ f < nF X ∧ s1.1 3 (prof s1.1 n) f < X 2 f 0 := ⟨(fnow X G s1.1 n).toNat, by omega, by omega, hfb.2.2 g1⟩
            obtain ⟨f, hf, hf1, hf2⟩ := hfn
            rw [hf] at hP1 g1 ⊢
            rw [Int.toNat_natCast] at hP1
            rw [if_neg (by omega)]
            have bpz := plz_bd (A := s1.1) B hnP hf1
            have eL : am_L M1 232 n = am_l (s1.2.1 0 n) := by have := HQ1.1 n (by omega); rw [uq_ne (by omega)] at this; exact this
            -- saw[p] = f
            have S2 := S1.sI 231 n (am_i (f : Int))
            have HX2 := mH_mv (M' := am_sI M1 231 n (am_i (f : Int))) HX1 B (fun b k h1 h2 h3 => am_I_ne1 (by omega))
            have HA2 := mA_mv (M' := am_sI M1 231 n (am_i (f : Int))) HA1 (fun k h => am_I_ne1 (by omega))
            -- pleased0[p] += pleasedBy(p, f)
            have S3 := S2.sL 232 n (am_l (s1.2.1 0 n + plz X s1.1 n f))
            have HX3 : mH (am_sL (am_sI M1 231 n (am_i (f : Int))) 232 n (am_l (s1.2.1 0 n + plz X s1.1 n f))) X := HX2
            have HA3 : mA (am_sL (am_sI M1 231 n (am_i (f : Int))) 232 n (am_l (s1.2.1 0 n + plz X s1.1 n f))) s1.1 := HA2
            have HG3 : mG (am_sL (am_sI M1 231 n (am_i (f : Int))) 232 n (am_l (s1.2.1 0 n + plz X s1.1 n f))) G := mG_mv HG1 (fun b k h1 h2 h3 h4 => by rw [am_I_sL', am_I_ne1 (by omega)])
            obtain ⟨M4, r4, S4, f4, HA4⟩ := m_partSeen S3 HX3 HG3 HA3 B BG hB1 (prof_le (A := s1.1) hnP) hf1 hf2 (d + 1)
            have hB4 := aB_see (G := G) B hB1 (prof_le (A := s1.1) hnP) hf1 hf2
            obtain ⟨M5, r5, S5, f5, HA5⟩ := m_hasSeen S4 HA4 hB4 (show n < 5 by omega) (d + 5)
            have e40 : see X G s1.1 (prof s1.1 n) f 4 n 0 = s1.1 4 n 0 := see_ne _ _ _ _ _ (by omega) (by omega)
            rw [e40] at HA5
            have hB5 : 0 ≤ watch X G s1.1 n f 0 0 0 := by rw [watch_ne X G s1.1 n f (i := 0) (j := 0) (k := 0) (by omega) (by omega) (by omega), ht']; exact bt.1
            have f25 : ∀ b k, ¬ pN b k → am_I M5 b k = am_I (am_sI M1 231 n (am_i (f : Int))) b k ∧ am_L M5 b k = am_L (am_sL (am_sI M1 231 n (am_i (f : Int))) 232 n (am_l (s1.2.1 0 n + plz X s1.1 n f))) b k := fun b k h => ⟨by rw [(f5 b k (by unfold pN at h; omega)).1, (f4 b k h).1, am_I_sL'], by rw [(f5 b k (by unfold pN at h; omega)).2, (f4 b k h).2]⟩
            have H605 : am_I M5 187 60 = am_i th := by rw [(f25 187 60 (by unfold pN; omega)).1, am_I_ne1 (by omega)]; exact H601
            have hrow : rowc (watch X G s1.1 n f) n f = rowc s1.1 n f := by
              unfold rowc
              rw [watch_ne X G s1.1 n f (i := 0) (j := 0) (k := 0) (by omega) (by omega) (by omega)]
            have kept : ∃ M6, am_cl 181 (d + 5) [.ref 187, .int (am_i n), .int (am_i f)] M5 = some (none, M6) ∧ am_Sh L q0' M6 ∧ fr (pH th) M5 M6 ∧ (∀ b k, ¬ pK b k → am_I M6 b k = am_I M5 b k ∧ am_L M6 b k = am_L M5 b k) ∧ (th = 0 → mK M6 (kpush s1.2.2 (rowc s1.1 n f))) := by
              by_cases g5 : th = 0
              · subst g5
                have HK5 : mK M5 s1.2.2 := mK_mv (HK1 rfl) (fun k hk => by rw [(f25 229 k (by unfold pN; omega)).1, am_I_ne1 (by omega)])
                obtain ⟨M6, r6, S6, f6, HK6⟩ := m_isKept S5 (A := watch X G s1.1 n f) HA5 hB5 HK5 H605 (show n < 16 by omega) (show f < 8 by omega) (d + 5)
                rw [hrow] at HK6
                exact ⟨M6, r6, S6, fr_mono f6 (fun b k h => by unfold pK at h; unfold pH; omega), f6, fun _ => HK6⟩
              · have h1 : th = 1 := by omega
                subst h1
                exact ⟨M5, m_isKept_th S5 H605 _ _ _, S5, fr_rfl _ _, fun _ _ _ => ⟨rfl, rfl⟩, fun h => absurd h (by decide)⟩
            obtain ⟨M6, r6, S6, f6, i6, HK6⟩ := kept
            simp (disch := omega) only [am_ob_p (kk_187 S1), rr_187_61 S1, rr_187_62 S1, am_gr_p, am_iw_p (kk_231 S1), am_i_ix, Int.toNat_natCast, am_lt, am_ob_sI, am_R_sI', am_ix_sI, am_ix_p (kk_232 S1), m_pleasedBy S2 HX2 HA2 B hnP hf1, am_bI_p, am_iw_sI, am_iw_p (kk_232 S1), am_L_sI', eL, am_i2l, am_l_add, am_ob_sL, m_profileOf S3 HA3]
            rw [r4, am_bV_p, am_ob_p (kk_187 S4), r5, am_bV_p, am_ob_p (kk_187 S5), r6, am_bV_p]
            simp only [am_i_add]
            refine go M6 _ _ S6 (fr_tr (fr_tr (fr_tr (fr_tr (fr_sI (Or.inr (Or.inl rfl))) (fr_sL (Or.inr (Or.inr (Or.inl rfl))))) (fr_mono f4 (fun b k h => by unfold pN at h; unfold pH; omega))) (fr_mono f5 (fun b k h => by unfold pH; omega))) f6) (by rw [hP1]; dsimp only; rw [uq_eq]) ?_
            rw [hP1]
            refine ⟨mA_mv HA5 (fun k h => (i6 229 k (by unfold pK; omega)).1), HK6, ⟨fun p hp => ?_, fun p hp => ?_, fun p hp => ?_⟩, by rw [(i6 187 60 (by unfold pK; omega)).1]; exact H605⟩
            · dsimp only
              rw [(i6 232 p (by unfold pK; omega)).2, (f25 232 p (by unfold pN; omega)).2, uq_ne (by omega), uq_ne (by omega)]
              by_cases g4 : p = n
              · subst g4
                rw [am_L_same, uq_eq]
              · rw [am_L_ne2 g4, am_L_sI', uq_ne (by omega), uq_ne (by omega)]
                have := HQ1.1 p hp
                rw [uq_ne (by omega)] at this
                exact this
            · dsimp only
              rw [(i6 233 p (by unfold pK; omega)).1, (f25 233 p (by unfold pN; omega)).1, am_I_ne1 (by omega), uq_ne (by omega), uq_ne (by omega), uq_ne (by omega), uq_ne (by omega)]
              have := HQ1.2.1 p hp
              rw [uq_ne (by omega)] at this
              exact this
            · dsimp only
              rw [(i6 231 p (by unfold pK; omega)).1, (f25 231 p (by unfold pN; omega)).1, uq_ne (by omega), uq_ne (by omega), uq_ne (by omega)]
              by_cases g4 : p = n
              · subst g4
                rw [am_I_same, uq_eq]
              · rw [am_I_ne2 g4, uq_ne (by omega)]
                have := HQ1.2.2 p hp
                rw [uq_ne (by omega)] at this
                exact this
      have e1 : am_I (am_sI M 231 n (am_i (-1))) 229 1 = am_i (A 0 0 0 % 24) := by rw [← htm]; exact HA0.2.1
      rw [t186_4]
      simp (disch := omega) only [am_ob_p (kk_187 S), m_personMany S HX, am_bI_p, am_br_ge]
      rw [if_neg (by omega)]
      have hfr : fre X n (A 0 0 0 % 24) = 0 ∨ fre X n (A 0 0 0 % 24) = 1 := by unfold fre; split <;> simp
      simp (disch := omega) only [am_ob_p (kk_187 S), rr_187_54 S, rr_187_61 S, am_gr_p, am_iw_p (kk_231 S), am_ix_p (kk_229 S), am_i_ix, Int.toNat_natCast, Int.toNat_one, am_lt, am_ob_sI, am_R_sI', am_ix_sI, e1, m_isFree S0 HX0 B hnP, am_bI_p, am_br_eq]
      rcases hfr with g | g
      · rw [if_pos g]
        have hfn : fnow X G s1.1 n = -1 := by unfold fnow; rw [htm, if_neg (by omega)]
        have := at42 _ S0 (fr_rfl _ _)
        rw [hfn] at this
        exact this
      · rw [if_neg (by omega)]
        have hfn : fnow X G s1.1 n = sug X G s1.1 n := by unfold fnow; rw [htm, if_pos g]
        obtain ⟨M1, r1, S1, f1⟩ := m_suggestedTo S0 HX0 HG0 HA0 B BG hB1 hnP d
        have := at42 M1 S1 f1
        rw [hfn] at this
        rw [r1, am_bI_p]
        exact this
  obtain ⟨M', r, S', f', Hs'⟩ := key (nP X) 0 (by omega) M .null S HX HG ⟨HA, HK, ⟨fun p hp => by show _ = am_l (q0 Q 0 p); exact HQ.1 p hp, fun p hp => by show _ = am_i (q0 Q 1 p); exact HQ.2.1 p hp, fun p hp => absurd hp (by omega)⟩, h60⟩
  refine ⟨M', ?_, S', f', Hs'⟩
  rw [t186]
  exact r
