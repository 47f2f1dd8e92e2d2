/-! The call house, where it is refused. -/
theorem call_houseE {L : Nat} {xs : Nat → Int32} {M : am_M} {W : am_Wo} {b : Nat} (R : Rel L xs M W b) {e : Int × Int} (hs : sLoop (wZ W) (wZ W 1 0).toNat 80 0 H0h (sk (wZ W) (wZ W 1 0).toNat 0) false = .inl e) : Call L xs 4 155 [] M b := by
  obtain ⟨q, hq, S, HC, HM, B, h0⟩ := R
  have B1 := B.1
  have BZ : zB (wX W) (wZ W) := B.2.2.2.2.2.2
  have hh : isH q.1 := by obtain ⟨h, -, -⟩ := hq; show q.1 = 4 ∨ q.1 = 38; omega
  have hh' : q.1 = 4 ∨ q.1 = 38 := hh
  have hZ := HC.2.2.2.2.2.2.1
  have hw := HC.2.2.2.2.2.2.2
  have hn : (wZ W 1 0).toNat ≤ 1600 := by have := BZ.2.1; omega
  have hnz : (((wZ W 1 0).toNat : Nat) : Int) = wZ W 1 0 := by have := BZ.2.1; omega
  have S1 := S.sI 2 2 (am_i 0)
  have z1 := cWz_t hZ
  obtain ⟨M2, x, r2, S2, f2, H2⟩ := c_readHouse hh S1 (Z := wZ W) (fun k hk => by rw [am_I_ne1 (by omega)]; exact hZ.1 k hk) BZ.1 hw hn 536
  rw [hs] at H2
  obtain ⟨hx, he, e0, e1⟩ := H2
  subst hx
  rw [hnz] at r2
  have hq1 : (qR' q).1 = q.1 := rfl
  have z2 : cWz M2 (uZ (uZ (tZ (wZ W)) 2 0 e.1) 2 1 e.2) := cWz_pl z1 (fun b k h h3 => (f2 b k (fun g => by
    rcases g with g | g
    · exact h3 g
    · unfold zC at h; omega)).1) e0 e1
  have r3 := c_refuse S2 z2 (n := 1) (by omega) 598
  have z3 := cWz_7 z2 1
  have S3 := S2.sI 37 1 (am_i (uZ (uZ (tZ (wZ W)) 2 0 e.1) 2 1 e.2 7 1 + 1))
  obtain ⟨M3, hM3⟩ : ∃ M3, M3 = am_sI M2 37 1 (am_i (uZ (uZ (tZ (wZ W)) 2 0 e.1) 2 1 e.2 7 1 + 1)) := ⟨_, rfl⟩
  rw [← hM3] at r3 z3 S3
  have eT := c_takeTape S hZ 598
  have rc : am_cl 4 599 [.ref 2] M = some (some (.int (am_i (-1))), M3) := by
    have r2 : am_cl 96 598 [.ref 3, .int (am_i (wZ W 1 0))] (am_sI M 2 2 (am_i 0)) = some (some (.int (am_i (-1))), M2) := r2
    have r3 : am_cl 37 598 [.ref 2, .int (am_i 1)] M2 = some (some (.int (am_i (-1))), M3) := r3
    rw [t4, am_ob_p (kk_2 S), rr_2_0 S, am_gr_p, am_ob_p (kk_2 S), eT, am_bI_p, am_ob_p (kk_3 S1), r2, am_bI_p, am_br_ne (by omega) (by omega) (by omega) (by omega), if_pos rfl, am_ob_p (kk_2 S2), r3, am_bI_p]
  have f1 : fr (fun b k => (sC q b k ∨ zC b k) ∧ b < 187) M M3 := by
    rw [hM3]
    refine fr_tr (fr_sI ⟨Or.inr (by unfold zC; omega), by omega⟩) (fr_tr (fr_mono f2 (fun b k h => ?_)) (fr_sI ⟨Or.inr (by unfold zC; omega), by omega⟩))
    rcases h with h | h
    · subst h
      by_cases g : k < 2
      · exact ⟨Or.inr (by unfold zC; omega), by omega⟩
      · exact ⟨Or.inl (sC_3 ⟨rfl, by omega⟩), by omega⟩
    · have h : q.1 ≤ b ∧ b < q.1 + 25 := h
      exact ⟨Or.inl (sC_h h), by omega⟩
  have hM1 : ∀ b k, 187 ≤ b → am_I M3 b k = am_I M b k ∧ am_L M3 b k = am_L M b k := fun b k h => f1 b k (fun g => by omega)
  obtain ⟨m1, m2, m3, m4, m5, m6, m7, m8, m9⟩ := HM
  have mz := mWz_mv m7 hM1
  obtain ⟨M5, y, r5, S5, e11, H5⟩ := m_house S3 (Z := wZ W) mz.1 BZ.1 (mWw_mv m8 (fun b k h => (hM1 b k (by omega)).1)) hn (by rw [hnz]; exact mz.2.1) (mz.2.2.2.2.2.2.2.2.1 1 (by omega)) 586
  rw [hs] at H5
  obtain ⟨hy, -, e7, e8, e9, f5⟩ := H5
  subst hy
  have hqq : qok (qR' q) := by
    obtain ⟨g1, g2, g3⟩ := hq
    refine ⟨g1, g2, ?_⟩
    show q.1 + 24 = 29 ∨ q.1 + 24 = 28 ∨ q.1 + 24 = 62
    omega
  refine Call_Z (v := .int (am_i (-1))) (Z := refZ (uZ (uZ (tZ (wZ W)) 2 0 e.1) 2 1 e.2) 1) (iv _) hq HC ⟨m1, m2, m3, m4, m5, m6, m7, m8, m9⟩ B h0 rc f1 z3 hqq rfl r5 (fr_mono f5 (fun b k h => pMx_z h)) (mWz_pl mz f5 e11 e7 e8 e9) ?_ S5
  have g : ∀ a b, a ≠ 1 → a ≠ 2 → ¬ (a = 7 ∧ b = 1) → refZ (uZ (uZ (tZ (wZ W)) 2 0 e.1) 2 1 e.2) 1 a b = wZ W a b := fun a b h1 h2 h3 => by
    unfold refZ tZ
    rw [uZ_ne h3, uZ_ne (by omega), uZ_ne (by omega), uZ_ne (by omega)]
  have g1 : refZ (uZ (uZ (tZ (wZ W)) 2 0 e.1) 2 1 e.2) 1 1 0 = 0 := by
    unfold refZ tZ
    rw [uZ_ne (by omega), uZ_ne (by omega), uZ_ne (by omega), uZ_eq]
  obtain ⟨c1, c2, c3, c4, c5, c6⟩ := BZ
  refine ⟨fun k => by rw [g _ _ (by omega) (by omega) (by omega)]; exact c1 k, by rw [g1]; omega, by rw [g _ _ (by omega) (by omega) (by omega)]; exact c3, fun r hr => ?_, by rw [g _ _ (by omega) (by omega) (by omega)]; exact c5, by rw [g _ _ (by omega) (by omega) (by omega)]; exact c6⟩
  rw [g _ _ (by omega) (by omega) (by omega)] at hr
  rw [g _ _ (by omega) (by omega) (by omega), g _ _ (by omega) (by omega) (by omega), g _ _ (by omega) (by omega) (by omega)]
  exact c4 r hr
