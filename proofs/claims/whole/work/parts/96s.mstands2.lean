/-! The reference: a house stands. -/
theorem m_stands {L : Nat} {q : am_Pq} {M : am_M} (S : am_Sh L q M) {H : am_HS} (HH : mHt M H) (hx : xI H.1 H.2.1) (d : Nat) : ∃ M', am_cl 156 (d + 2) [.ref 187] M = some (none, M') ∧ am_Sh L q M' ∧ mH M' H.1 ∧ mN M' H.2.1 H.1 ∧ mG M' H.2.2.1 ∧ mA M' (aP azr (H.1 7 0 0)) ∧ mK M' [] ∧ am_I M' 187 68 = am_i 0 ∧ am_I M' 187 65 = am_i 0 ∧ fr (fun b k => (219 ≤ b ∧ b ≤ 229) ∨ (b = 187 ∧ (k = 65 ∨ k = 68))) M M' := by
  obtain ⟨⟨n1, n2, n3⟩, hr, hG, e51, hD⟩ := HH
  obtain ⟨M1, r1, S1, f1, e1⟩ := m_cp2 (d + 1) 3 0 (by omega) S
  obtain ⟨M2, r2, S2, f2, e2⟩ := m_cp57 (d + 1) 24 0 (by omega) S1
  obtain ⟨M3, r3, S3, f3, e3⟩ := m_cp86 (d + 1) 8 0 (by omega) S2
  obtain ⟨M4, r4, S4, f4, e4⟩ := m_cp115 (d + 1) 48 0 (by omega) S3
  obtain ⟨M5, r5, S5, f5, e5⟩ := m_cp144 (d + 1) 10 0 (by omega) S4
  obtain ⟨M6, r6, S6, f6, e6⟩ := m_cp173 (d + 1) 30 0 (by omega) S5
  obtain ⟨M7, r7, S7, f7, e7⟩ := m_cp202 (d + 1) 4 0 (by omega) S6
  have k51 : am_I M7 187 51 = am_i (H.2.2.2.2 : Int) := by
    rw [(f7 _ _ (by omega)).1, (f6 _ _ (by omega)).1, (f5 _ _ (by omega)).1, (f4 _ _ (by omega)).1, (f3 _ _ (by omega)).1, (f2 _ _ (by omega)).1, (f1 _ _ (by omega)).1]
    exact e51
  obtain ⟨M8, r8, S8, f8, e8⟩ := m_cp229 (d + 1) hD H.2.2.2.2 0 (by omega) S7 k51
  obtain ⟨M9, r9, S9, f9, e9⟩ := m_cp261 (d + 1) 257 0 (by omega) S8
  have c2 := (xB_c n3 (s := 2) (by omega)).2.2
  have h7 := hx.1.2.2.2.2.2.2.2.2.1
  have h25 := n3.2.2.1
  have h32 : 2 ^ nM H.1 2 ≤ 2 ^ 5 := Nat.pow_le_pow_right (by decide) (by omega)
  have h7b : H.1 7 0 0 < 32 := by
    have h : H.1 7 0 0 < ((2 ^ nM H.1 2 : Nat) : Int) := h7.2
    omega
  have k219 : ∀ k, k < 3 → am_I M9 219 (3 + k) = am_i (H.1 0 k 0) := fun k hk => by
    rw [(f9 _ _ (by omega)).1, (f8 _ _ (by omega)).1, (f7 _ _ (by omega)).1, (f6 _ _ (by omega)).1, (f5 _ _ (by omega)).1, (f4 _ _ (by omega)).1, (f3 _ _ (by omega)).1, (f2 _ _ (by omega)).1, (e1 k (by omega) hk).1]
    exact n1 k hk
  have k46 : am_I M9 187 46 = am_i (H.1 7 0 0) := by
    rw [(f9 _ _ (by omega)).1, (f8 _ _ (by omega)).1, (f7 _ _ (by omega)).1, (f6 _ _ (by omega)).1, (f5 _ _ (by omega)).1, (f4 _ _ (by omega)).1, (f3 _ _ (by omega)).1, (f2 _ _ (by omega)).1, (f1 _ _ (by omega)).1]
    exact hr 7 0 0 (by unfold vd; omega)
  obtain ⟨M10, r10, S10, f10, e10⟩ := m_press2 d (np := nM H.1 2) (by omega) (P := H.1 7 0 0) ⟨h7.1, h7b⟩ (nM H.1 2) 0 (by omega) S9 (by rw [c2.1]; exact k219 2 (by omega))
  have S11 := S10.sI 187 68 (am_i 0)
  have S12 := S11.sI 187 65 (am_i 0)
  have fE : fr (fun b k => b = 187 ∧ (k = 65 ∨ k = 68)) M10 (am_sI (am_sI M10 187 68 (am_i 0)) 187 65 (am_i 0)) := fr_tr (fr_sI (by omega)) (fr_sI (by omega))
  have a2 : fr (fun b k => b = 229) M8 (am_sI (am_sI M10 187 68 (am_i 0)) 187 65 (am_i 0)) → True := fun _ => trivial
  have g89 : ∀ b k, b ≠ 229 → ¬ (b = 187 ∧ (k = 65 ∨ k = 68)) → am_I (am_sI (am_sI M10 187 68 (am_i 0)) 187 65 (am_i 0)) b k = am_I M8 b k ∧ am_L (am_sI (am_sI M10 187 68 (am_i 0)) 187 65 (am_i 0)) b k = am_L M8 b k := fun b k h1 h2 => by
    have i1 := fE b k h2
    have i2 := f10 b k (by omega)
    have i3 := f9 b k (by omega)
    exact ⟨i1.1.trans (i2.1.trans i3.1), i1.2.trans (i2.2.trans i3.2)⟩
  have fAll : fr (fun b k => (219 ≤ b ∧ b ≤ 229) ∨ (b = 187 ∧ (k = 65 ∨ k = 68))) M (am_sI (am_sI M10 187 68 (am_i 0)) 187 65 (am_i 0)) := fr_tr (fr_mono f1 (fun b k h => by omega)) (fr_tr (fr_mono f2 (fun b k h => by omega)) (fr_tr (fr_mono f3 (fun b k h => by omega)) (fr_tr (fr_mono f4 (fun b k h => by omega)) (fr_tr (fr_mono f5 (fun b k h => by omega)) (fr_tr (fr_mono f6 (fun b k h => by omega)) (fr_tr (fr_mono f7 (fun b k h => by omega)) (fr_tr (fr_mono f8 (fun b k h => by omega)) (fr_tr (fr_mono f9 (fun b k h => by omega)) (fr_tr (fr_mono f10 (fun b k h => by omega)) (fr_mono fE (fun b k h => by omega)))))))))))
  have k229 : ∀ k, k < 257 → ¬ (k % 2 = 0 ∧ 86 ≤ k ∧ k < 96) → am_I (am_sI (am_sI M10 187 68 (am_i 0)) 187 65 (am_i 0)) 229 k = am_i 0 := fun k hk h => by
    rw [(fE _ _ (by omega)).1, (f10 _ _ (by omega)).1]
    exact e9 k (by omega) hk
  have hF8 : nF H.1 ≤ 8 := (hB_F hx.1).2
  have hP5 : nP H.1 ≤ 5 := (hB_P hx.1).2
  refine ⟨_, ?_, S12, ⟨fun k hk => ?_, fun f hf => ?_, fun f hf k hk => ?_, fun p hp => ?_, fun p hp => ?_, fun p hp k hk => ?_, fun j hj => ?_⟩, fun s hs w hw => ?_, fun j hj => ?_, ⟨?_, ?_, fun q hq k hk => ?_, fun q hq f hf => ?_, fun p hp => ?_, fun p hp => ?_⟩, ⟨?_, by show 0 ≤ 40; omega, fun k hk => absurd hk (by show ¬ k < 0; omega)⟩, ?_, ?_, fAll⟩
  · have h0 := t156 (d + 1) M 187
    have r9' := (t156_261 (d + 1) M9 187 (am_i 257))
    rw [am_br_ge (by omega) (by omega) (by omega) (by omega), if_pos (by omega), am_ob_p (kk_187 S9), am_ob_p (kk_187 S9), k46, t168] at r9'
    have r10 : am_ev 168 (d + 1) 2 [.ref 187, .int (am_i (H.1 7 0 0)), .int (am_i 0)] [] M9 = some (none, M10) := r10
    rw [r10, am_bV_p, am_ob_p (kk_187 S10), am_lt, am_ob_p (kk_187 S11), am_lt] at r9'
    exact h0.trans (r1.trans (r2.trans (r3.trans (r4.trans (r5.trans (r6.trans (r7.trans (r8.trans (r9.trans r9')))))))))
  · rw [(fE _ _ (by omega)).1, (f10 _ _ (by omega)).1]
    exact k219 k hk
  · rw [(g89 _ _ (by omega) (by omega)).1, (f8 _ _ (by omega)).1, (f7 _ _ (by omega)).1, (f6 _ _ (by omega)).1, (f5 _ _ (by omega)).1, (f4 _ _ (by omega)).1, e3 f (by omega) (by omega), (f2 _ _ (by omega)).1, (f1 _ _ (by omega)).1]
    exact hr 2 f 0 (Or.inl ⟨rfl, hf, rfl⟩)
  · rw [(g89 _ _ (by omega) (by omega)).1, (f8 _ _ (by omega)).1, (f7 _ _ (by omega)).1, (f6 _ _ (by omega)).1, (f5 _ _ (by omega)).1, show 48 + 6 * f + k = 48 + (6 * f + k) by omega, e4 (6 * f + k) (by omega) (by omega), (f3 _ _ (by omega)).1, (f2 _ _ (by omega)).1, (f1 _ _ (by omega)).1]
    exact hr 3 f k (Or.inr (Or.inl ⟨rfl, hf, hk⟩))
  · rw [(g89 _ _ (by omega) (by omega)).1, (f8 _ _ (by omega)).1, (f7 _ _ (by omega)).1, (f6 _ _ (by omega)).1, e5 (2 * p) (by omega) (by omega), (f4 _ _ (by omega)).1, (f3 _ _ (by omega)).1, (f2 _ _ (by omega)).1, (f1 _ _ (by omega)).1]
    exact hr 4 p 0 (Or.inr (Or.inr (Or.inl ⟨Or.inl rfl, hp, rfl⟩)))
  · rw [(g89 _ _ (by omega) (by omega)).1, (f8 _ _ (by omega)).1, (f7 _ _ (by omega)).1, (f6 _ _ (by omega)).1, show 11 + 2 * p = 10 + (2 * p + 1) by omega, e5 (2 * p + 1) (by omega) (by omega), (f4 _ _ (by omega)).1, (f3 _ _ (by omega)).1, (f2 _ _ (by omega)).1, (f1 _ _ (by omega)).1]
    exact hr 5 p 0 (Or.inr (Or.inr (Or.inl ⟨Or.inr rfl, hp, rfl⟩)))
  · rw [(g89 _ _ (by omega) (by omega)).1, (f8 _ _ (by omega)).1, (f7 _ _ (by omega)).1, show 30 + 6 * p + k = 30 + (6 * p + k) by omega, e6 (6 * p + k) (by omega) (by omega), (f5 _ _ (by omega)).1, (f4 _ _ (by omega)).1, (f3 _ _ (by omega)).1, (f2 _ _ (by omega)).1, (f1 _ _ (by omega)).1]
    exact hr 6 p k (Or.inr (Or.inr (Or.inr (Or.inl ⟨rfl, by omega, hk⟩))))
  · rw [(g89 _ _ (by omega) (by omega)).1, (f8 _ _ (by omega)).1, e7 j (by omega) hj, (f6 _ _ (by omega)).1, (f5 _ _ (by omega)).1, (f4 _ _ (by omega)).1, (f3 _ _ (by omega)).1, (f2 _ _ (by omega)).1, (f1 _ _ (by omega)).1]
    have hv : vd H.1 (8 + j) 0 0 := Or.inr (Or.inr (Or.inr (Or.inr ⟨by omega, by omega, rfl, rfl⟩)))
    have h := hr (8 + j) 0 0 hv
    have hm := mad_c hv
    rw [show (mad (8 + j) 0 0).1 = 225 by omega, show (mad (8 + j) 0 0).2 = j by omega] at h
    exact h
  · have hc := xB_c n3 hs
    rw [(g89 _ _ (by omega) (by omega)).2, (f8 _ _ (by omega)).2, (f7 _ _ (by omega)).2, (f6 _ _ (by omega)).2, (f5 _ _ (by omega)).2, (f4 _ _ (by omega)).2, (f3 _ _ (by omega)).2, show 24 + 8 * s + w = 24 + (8 * s + w) by omega, e2 (8 * s + w) (by omega) (by omega), (f1 _ _ (by omega)).2]
    exact n2 s hs w hw
  · have h1 := hG j hj
    have e1j := e1 j (by omega) hj
    have k26 : am_I (am_sI (am_sI M10 187 68 (am_i 0)) 187 65 (am_i 0)) 226 (3 + j) = am_I M 226 j := by
      rw [(g89 _ _ (by omega) (by omega)).1, (f8 _ _ (by omega)).1, (f7 _ _ (by omega)).1, (f6 _ _ (by omega)).1, (f5 _ _ (by omega)).1, (f4 _ _ (by omega)).1, (f3 _ _ (by omega)).1, (f2 _ _ (by omega)).1, e1j.2.1]
    have k27 : am_I (am_sI (am_sI M10 187 68 (am_i 0)) 187 65 (am_i 0)) 227 (3 + j) = am_I M 227 j := by
      rw [(g89 _ _ (by omega) (by omega)).1, (f8 _ _ (by omega)).1, (f7 _ _ (by omega)).1, (f6 _ _ (by omega)).1, (f5 _ _ (by omega)).1, (f4 _ _ (by omega)).1, (f3 _ _ (by omega)).1, (f2 _ _ (by omega)).1, e1j.2.2]
    cases hy : H.2.2.1 j with
    | none =>
      rw [hy] at h1
      exact k26.trans h1
    | some l =>
      rw [hy] at h1
      obtain ⟨o, b1, b2, b3, b4⟩ := h1
      refine ⟨o, by omega, k26.trans b2, k27.trans b3, fun i hi => ?_⟩
      rw [(g89 _ _ (by omega) (by omega)).1, e8 (o + i) (by omega) (by omega), (f7 _ _ (by omega)).1, (f6 _ _ (by omega)).1, (f5 _ _ (by omega)).1, (f4 _ _ (by omega)).1, (f3 _ _ (by omega)).1, (f2 _ _ (by omega)).1, (f1 _ _ (by omega)).1]
      exact b4 i hi
  · rw [k229 0 (by omega) (by omega)]; rfl
  · rw [k229 1 (by omega) (by omega)]; rfl
  · rw [k229 _ (by omega) (by omega)]; rfl
  · rw [k229 _ (by omega) (by omega)]; rfl
  · rw [(fE _ _ (by omega)).1]
    have hpr : prs (aP azr (H.1 7 0 0)) p = H.1 7 0 0 / ((2 ^ p : Nat) : Int) % 2 := rfl
    rw [hpr]
    by_cases g : p < nM H.1 2
    · exact e10 p (by omega) g
    · have e0 : H.1 7 0 0 / ((2 ^ p : Nat) : Int) % 2 = 0 := by
        have h : H.1 7 0 0 < ((2 ^ nM H.1 2 : Nat) : Int) := h7.2
        have h2 : 2 ^ nM H.1 2 ≤ 2 ^ p := Nat.pow_le_pow_right (by decide) (by omega)
        rw [Int.ediv_eq_zero_of_lt h7.1 (by omega)]
        rfl
      rw [e0, (f10 _ _ (by omega)).1]
      exact e9 _ (by omega) (by omega)
  · rw [k229 _ (by omega) (by omega)]; rfl
  · rw [k229 96 (by omega) (by omega)]; rfl
  · rw [am_I_ne2 (by omega), am_I_same]
  · rw [am_I_same]
