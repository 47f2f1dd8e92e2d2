/-! The call house, where it is read. -/
def nwZ (Z : Nat → Nat → Int) : Nat → Nat → Int := uZ (uZ (uZ (tZ Z) 2 0 0) 2 1 (-1)) 4 0 0
theorem nwZ_o {Z : Nat → Nat → Int} {a b : Nat} (h : a ≠ 1 ∧ a ≠ 2 ∧ a ≠ 4) : nwZ Z a b = Z a b := by
  unfold nwZ tZ
  rw [uZ_ne (by omega), uZ_ne (by omega), uZ_ne (by omega), uZ_ne (by omega)]
theorem aB_new {X : am_X} (B : hB X) : aB X (aP azr (X 7 0 0)) := by
  have e : ∀ a b c, a ≠ 1 → aP azr (X 7 0 0) a b c = 0 := fun a b c h => by
    unfold aP
    rw [uA_ne (by omega)]
    rfl
  have e1 : aP azr (X 7 0 0) 1 0 0 = X 7 0 0 := uA_eq _ _ _ _ _
  refine ⟨by rw [e _ _ _ (by omega)]; omega, by rw [e1]; exact B.2.2.2.2.2.2.2.2.1, fun q hq k hk => by rw [e _ _ _ (by omega)]; omega, fun q hq f hf => ?_, fun p hp => by rw [e _ _ _ (by omega)]; omega, fun q hq k hk h => e _ _ _ (by omega), fun q hq f hf h => e _ _ _ (by omega), fun p hp h => e _ _ _ (by omega)⟩
  rw [e _ _ _ (by omega)]
  exact ⟨by omega, fun h => by have := (B.2.2.2.1 f h).1; omega⟩
theorem mWz_nw {M M' : am_M} {Z : Nat → Nat → Int} (H : mWz M Z) (f : fr pMy M M') (e1 : am_I M' 187 1 = am_i 0) (e7 : am_I M' 187 7 = am_i 0) (e8 : am_I M' 187 8 = am_i (-1)) (e9 : am_I M' 189 1 = am_i (Z 7 1)) (e65 : am_I M' 187 65 = am_i 0) : mWz M' (nwZ Z) := by
  obtain ⟨k1, k2, k3, k4, k5, k6, k7, k8, k9, k10⟩ := H
  have nf : ∀ b k, ¬ ((b = 187 ∧ (k = 65 ∨ k = 68 ∨ (1 ≤ k ∧ k ≤ 8) ∨ k = 39 ∨ k = 46 ∨ (51 ≤ k ∧ k ≤ 53) ∨ (56 ≤ k ∧ k ≤ 59) ∨ k = 92 ∨ (94 ≤ k ∧ k ≤ 96) ∨ (98 ≤ k ∧ k ≤ 100))) ∨ (b = 189 ∧ k = 1) ∨ (219 ≤ b ∧ b ≤ 234) ∨ (257 ≤ b ∧ b ≤ 259)) → am_I M' b k = am_I M b k ∧ am_L M' b k = am_L M b k := fun b k h => f b k (fun h2 => by
    rcases h2 with h2 | h2 | h2
    · have := pMx_c h2; omega
    · omega
    · omega)
  refine ⟨fun k hk => ?_, ?_, ?_, ?_, fun k hk => ?_, ?_, fun k hk => ?_, ?_, fun k hk => ?_, ?_⟩
  · rw [nwZ_o (by omega), (nf _ _ (by omega)).1]; exact k1 k hk
  · rw [e1]; rfl
  · rw [e7]; rfl
  · rw [e8]; rfl
  · rw [nwZ_o (by omega), (nf _ _ (by omega)).1]; exact k5 k hk
  · rw [e65]; rfl
  · rw [nwZ_o (by omega), (nf _ _ (by omega)).1]; exact k7 k hk
  · rw [nwZ_o (by omega), (nf _ _ (by omega)).1]; exact k8
  · rw [nwZ_o (by omega)]
    by_cases h : k = 1
    · subst h; exact e9
    · rw [(nf _ _ (by omega)).1]; exact k9 k hk
  · rw [nwZ_o (by omega), (nf _ _ (by omega)).2]; exact k10
theorem call_houseO {L : Nat} {xs : Nat → Int32} {M : am_M} {W : am_Wo} {b : Nat} (R : Rel L xs M W b) {c : Nat} {H : am_HS} (hs : sLoop (wZ W) (wZ W 1 0).toNat 80 0 H0h (sk (wZ W) (wZ W 1 0).toNat 0) false = .inr (c, H)) : Call L xs 4 155 [] M b := by
  obtain ⟨q, hq, S, HC, HM, B, h0⟩ := R
  have B1 := B.1
  have BZ : zB (wX W) (wZ W) := B.2.2.2.2.2.2
  have hh : isH q.1 := by obtain ⟨h, -, -⟩ := hq; show q.1 = 4 ∨ q.1 = 38; omega
  have hh' : q.1 = 4 ∨ q.1 = 38 := hh
  have hZ := HC.2.2.2.2.2.2.1
  have hw := HC.2.2.2.2.2.2.2
  have hn : (wZ W 1 0).toNat ≤ 1600 := by have := BZ.2.1; omega
  have hnz : (((wZ W 1 0).toNat : Nat) : Int) = wZ W 1 0 := by have := BZ.2.1; omega
  have S1 := S.sI 2 2 (am_i 0)
  have z1 := cWz_t hZ
  obtain ⟨M2, x, r2, S2, f2, H2⟩ := c_readHouse hh S1 (Z := wZ W) (fun k hk => by rw [am_I_ne1 (by omega)]; exact hZ.1 k hk) BZ.1 hw hn 536
  rw [hs] at H2
  obtain ⟨hx, hc, e0, e1, cH2, cN2, cG2, xI2, gB2⟩ := H2
  subst hx
  rw [hnz] at r2
  have BX := xI2.1
  obtain ⟨M3, r3, S3, f3, cA3, cK3, e27, e29⟩ := c_house_ok S hZ (k := (c : Int)) (P7 := H.1 7 0 0) r2 S2 hh (by omega) (by omega) (cH2.2.2.2.2.2.2 0 (by omega))
  have fc : ∀ b k, ¬ (b = 3 ∨ (q.1 ≤ b ∧ b < q.1 + 25) ∨ (64 ≤ b ∧ b < 69) ∨ (b = 2 ∧ (k = 2 ∨ k = 7 ∨ k = 9))) → am_I M3 b k = am_I M b k ∧ am_L M3 b k = am_L M b k := fun b k h => by
    have i3 := f3 b k (by unfold pA; omega)
    have i2 := f2 b k (fun g => by
      rcases g with g | g
      · omega
      · have g : q.1 ≤ b ∧ b < q.1 + 25 := g
        omega)
    have i1 := (fr_sI (P := fun b k => b = 2 ∧ k = 2) (M := M) (v := am_i 0) ⟨rfl, rfl⟩) b k (by omega)
    exact ⟨i3.1.trans (i2.1.trans i1.1), i3.2.trans (i2.2.trans i1.2)⟩
  have e23 : ∀ b k, ¬ (pA 64 b k ∨ (b = 2 ∧ (k = 7 ∨ k = 9))) → am_I M3 b k = am_I M2 b k := fun b k h => (f3 b k h).1
  have hM1 : ∀ b k, 187 ≤ b → am_I M3 b k = am_I M b k ∧ am_L M3 b k = am_L M b k := fun b k h => fc b k (by omega)
  obtain ⟨m1, m2, m3, m4, m5, m6, m7, m8, m9⟩ := HM
  have mz := mWz_mv m7 hM1
  obtain ⟨M5, y, r5, S5, e11, H5⟩ := m_house S3 (Z := wZ W) mz.1 BZ.1 (mWw_mv m8 (fun b k h => (hM1 b k (by omega)).1)) hn (by rw [hnz]; exact mz.2.1) (mz.2.2.2.2.2.2.2.2.1 1 (by omega)) 586
  rw [hs] at H5
  obtain ⟨hy, e7, e8, e9, mh, mn, mg, ma, mk, m68, m65, f5⟩ := H5
  subst hy
  have nf : ∀ b k, ¬ ((b = 187 ∧ (k = 65 ∨ k = 68 ∨ (1 ≤ k ∧ k ≤ 8) ∨ k = 39 ∨ k = 46 ∨ (51 ≤ k ∧ k ≤ 53) ∨ (56 ≤ k ∧ k ≤ 59) ∨ k = 92 ∨ (94 ≤ k ∧ k ≤ 96) ∨ (98 ≤ k ∧ k ≤ 100))) ∨ (b = 189 ∧ k = 1) ∨ (219 ≤ b ∧ b ≤ 234) ∨ (257 ≤ b ∧ b ≤ 259)) → am_I M5 b k = am_I M3 b k ∧ am_L M5 b k = am_L M3 b k := fun b k h => f5 b k (fun h2 => by
    rcases h2 with h2 | h2 | h2
    · have := pMx_c h2; omega
    · omega
    · omega)
  have hqq : qok ((qR' q).2.2.1, (qR' q).2.1, (qR' q).1, (qR' q).2.2.2) := qok_swap (by
    obtain ⟨g1, g2, g3⟩ := hq
    refine ⟨g1, g2, ?_⟩
    show q.1 + 24 = 29 ∨ q.1 + 24 = 28 ∨ q.1 + 24 = 62
    omega)
  have z3 : cWz M3 (nwZ (wZ W)) := by
    obtain ⟨k1, k2, k3, k4, k5, k6, k7, k8, k9, k10⟩ := hZ
    refine ⟨fun k hk => ?_, ?_, ?_, ?_, fun k hk => ?_, ?_, fun k hk => ?_, ?_, fun k hk => ?_, ?_⟩
    · rw [nwZ_o (by omega), (fc _ _ (by omega)).1]; exact k1 k hk
    · rw [e23 _ _ (by unfold pA; omega), (f2 _ _ (fun g => by
        rcases g with g | g
        · omega
        · have g : q.1 ≤ 2 ∧ 2 < q.1 + 25 := g
          omega)).1, am_I_same]
      rfl
    · rw [e23 _ _ (by unfold pA; omega), e0]; rfl
    · rw [e23 _ _ (by unfold pA; omega), e1]; rfl
    · rw [nwZ_o (by omega), (fc _ _ (by omega)).1]; exact k5 k hk
    · rw [e29]; rfl
    · rw [nwZ_o (by omega), (fc _ _ (by omega)).1]; exact k7 k hk
    · rw [nwZ_o (by omega), (fc _ _ (by omega)).1]; exact k8
    · rw [nwZ_o (by omega), (fc _ _ (by omega)).1]; exact k9 k hk
    · rw [nwZ_o (by omega), (fc _ _ (by omega)).1]; exact k10
  have hC3 : cWo ((qR' q).2.2.1, (qR' q).2.1, (qR' q).1, (qR' q).2.2.2) M3 (H.1, H.2.1, H.2.2.1, aP azr (H.1 7 0 0), [], [], nwZ (wZ W)) 0 := by
    obtain ⟨o, o1, o2, -⟩ := HC.2.2.2.2.2.1
    have a1 : cH M3 q.1 H.1 := cH_mv cH2 BX (fun b k h1 h2 => e23 b k (by unfold pA; omega))
    have a2 : cN M3 q.1 H.2.1 H.1 := fun s hs w hw => (e23 _ _ (by unfold pA; omega)).trans (cN2 s hs w hw)
    have a3 : cG M3 q.1 H.2.2.1 := cG_mv cG2 (fun b k h1 h2 => e23 b k (by unfold pA; omega))
    refine ⟨a1, a2, a3, cA3, cK3, ⟨o, o1, ((fc _ _ (by omega)).1).trans o2, e27, by show 0 ≤ 20; omega, fun j a h => (by cases h)⟩, z3, fun k hk => by rw [(fc 31 k (by omega)).2]; exact hw k hk⟩
  have hM5 : mWo M5 (H.1, H.2.1, H.2.2.1, aP azr (H.1 7 0 0), [], [], nwZ (wZ W)) := by
    obtain ⟨o, o1, o2, -⟩ := m6
    refine ⟨mh, mn, mg, ma, mk, ⟨o, o1, ?_, m68, by show 0 ≤ 20; omega, fun j a h => (by cases h)⟩, mWz_nw mz f5 e11 e7 e8 e9 m65, ?_, ?_⟩
    · rw [(nf _ _ (by omega)).1, (hM1 _ _ (by omega)).1]; exact o2
    · exact mWw_mv m8 (fun b k h => by rw [(nf _ _ (by omega)).1, (hM1 _ _ (by omega)).1])
    · rw [(nf _ _ (by omega)).1, (hM1 _ _ (by omega)).1]; exact m9
  obtain ⟨c1, c2, c3, c4, c5, c6⟩ := BZ
  have hB' : wB (H.1, H.2.1, H.2.2.1, aP azr (H.1 7 0 0), [], [], nwZ (wZ W)) := by
    refine ⟨BX, xI2.2.1, gB2, aB_new BX, fun r hr => (by cases hr), fun a ha => (by cases ha), fun k => ?_, ?_, ?_, fun r hr => ?_, ?_, ?_⟩
    · show 0 ≤ nwZ (wZ W) 0 k ∧ nwZ (wZ W) 0 k ≤ 255
      rw [nwZ_o (by omega)]; exact c1 k
    · show 0 ≤ (0 : Int) ∧ (0 : Int) ≤ 1600; omega
    · show 0 ≤ (0 : Int) ∧ (0 : Int) ≤ 16; omega
    · have hr : (r : Int) < 0 := hr
      omega
    · show 0 ≤ nwZ (wZ W) 6 0 ∧ nwZ (wZ W) 6 0 ≤ 139
      rw [nwZ_o (by omega)]; exact c5
    · show 0 ≤ nwZ (wZ W) 8 0 ∧ nwZ (wZ W) 8 0 ≤ 2147483647
      rw [nwZ_o (by omega)]; exact c6
  refine ⟨.int (am_i (c : Int)), M3, M5, _, r3, r5, ⟨_, hqq, S5, cWo_le (cWo_mv hC3 hqq BX rfl (fr_mono f5 (fun b k h => sC_r ?_))) (Nat.zero_le _), hM5, hB', fun k => ?_⟩, iv _⟩
  · rcases h with h | h | h
    · exact (pMx_z h).2
    · omega
    · omega
  · rw [(nf 0 k (by omega)).1, (fc 0 k (by omega)).1]; exact h0 k
theorem call_house {L : Nat} {xs : Nat → Int32} {M : am_M} {W : am_Wo} {b : Nat} (R : Rel L xs M W b) : Call L xs 4 155 [] M b := by
  cases hs : sLoop (wZ W) (wZ W 1 0).toNat 80 0 H0h (sk (wZ W) (wZ W 1 0).toNat 0) false with
  | inl e => exact call_houseE R hs
  | inr y => obtain ⟨c, H⟩ := y; exact call_houseO R hs
