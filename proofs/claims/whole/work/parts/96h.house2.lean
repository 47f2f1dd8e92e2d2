/-! The class: readHouse whole. -/
def qR' (q : am_Pq) : am_Pq := (q.1, q.1 + 24, q.2.2.1, q.2.2.2)
/-- what a house is read into, by the one who holds h -/
def cOut (M : am_M) (h : Nat) : Sum (Int × Int) (Nat × am_HS) → Int → Prop
  | .inl e, x => x = -1 ∧ (1 ≤ e.1 ∧ e.1 ≤ 5) ∧ am_I M 3 0 = am_i e.1 ∧ am_I M 3 1 = am_i e.2
  | .inr (c, H), x => x = (c : Int) ∧ c ≤ 80 ∧ am_I M 3 0 = am_i 0 ∧ am_I M 3 1 = am_i (-1) ∧ cH M h H.1 ∧ cN M h H.2.1 H.1 ∧ cG M h H.2.2.1 ∧ xI H.1 H.2.1 ∧ gB H.2.2.1
theorem cHt_3 {q : am_Pq} (hq : qh q) {M M' : am_M} {H : am_HS} (HH : cHt M q.1 H) (f : fr (fun b _ => b = 3) M M') : cHt M' q.1 H := by
  have h4 : q.1 = 4 ∨ q.1 = 38 := hq.1
  have e : ∀ b k, ¬ b = 3 → am_I M' b k = am_I M b k := fun b k h => (f b k h).1
  exact ⟨cNm_mv HH.1 (fun b k h1 h2 => e b k (by omega)), cHr_mv HH.2.1 (fun b k h1 h2 h3 h5 => e b k (by omega)), cGx_mv HH.2.2 (Nat.le_refl _) (fun k h1 h2 => e _ _ (by omega)) (fun k hk => e _ _ (by omega))⟩
theorem c_readHouse {L : Nat} {q : am_Pq} {Z : Nat → Nat → Int} {M : am_M} (hh : isH q.1) (S : am_Sh L q M) (hT : ∀ k, k < 1600 → am_I M 30 k = am_i (Z 0 k)) (hz : ∀ k, 0 ≤ Z 0 k ∧ Z 0 k ≤ 255) (hw : cWw M) {n : Nat} (hn : n ≤ 1600) (d : Nat) : ∃ M' x, am_cl 96 (d + 62) [.ref 3, .int (am_i (n : Int))] M = some (some (.int (am_i x)), M') ∧ am_Sh L (qR' q) M' ∧ fr (pHs (qR' q)) M M' ∧ cOut M' q.1 (sLoop Z n 80 0 H0h (sk Z n 0) false) x := by
  have h4 : q.1 = 4 ∨ q.1 = 38 := hh
  have hq : qh (qR' q) := ⟨hh, rfl⟩
  obtain ⟨M2, r2, S2, f2, HH2⟩ := c_clearH hh S (d + 61)
  obtain ⟨M3, fm, o, r3, H3, f3⟩ := c_start S2 (Z := Z) (fun k hk => by rw [(f2 _ _ (by omega)).1]; exact hT k hk) hz (fun k hk => by rw [(f2 _ _ (by omega)).2]; exact hw k hk) hn (v := q.1 + 24) (by omega) (d + 59)
  have H3 : rS L (qR' q) Z n H0h.2.2.2.1 fm o M3 (.inr (sk Z n 0, false, [])) := H3
  have HH3 : cHt M3 (qR' q).1 H0h := cHt_3 hq HH2 f3
  obtain ⟨M4, x, r4, f4, h5⟩ := c_loop hq d 80 0 rfl H3 HH3 (hI_0 _) (.int (am_i (n : Int)))
  have r : am_cl 96 (d + 62) [.ref 3, .int (am_i (n : Int))] M = some (some (.int (am_i x)), M4) := by
    have h0 := t96 (d + 61) M 3 (am_i (n : Int))
    rw [am_ob_p (kk_3 S), rr_3_2 S, am_gr_p, am_ob_p (H_k0 S hh), r2, am_bV_p, am_ob_p (kk_3 S2), rr_3_2 S2, am_gr_p, am_ob_p (H_k0 S2 hh), H_r0_15 S2 hh, am_gr_p, am_ob_p (kk_3 S2), r3, am_bV_p] at h0
    exact h0.trans r4
  have fA : fr (pHs (qR' q)) M M4 := fr_tr (fr_mono f2 (fun b k h => Or.inr ⟨h.1, by show b < q.1 + 25; omega⟩)) (fr_tr (fr_mono f3 (fun b k h => Or.inl h)) f4)
  cases hs : sLoop Z n 80 0 H0h (sk Z n 0) false with
  | inl e =>
    rw [hs] at h5
    obtain ⟨hx, B, fm', o', H5⟩ := h5
    exact ⟨M4, x, r, H5.1.1, fA, hx, H5.2.1, H5.2.2.1, H5.2.2.2.1⟩
  | inr y =>
    obtain ⟨c', H'⟩ := y
    rw [hs] at h5
    obtain ⟨hx, hc, s', t', fm', o', H5, ⟨⟨n1, n2, n3⟩, ⟨k1, k2, k3, k4, k5, k6⟩, HG⟩, hi⟩ := h5
    have hC := H5.1.2.2.2.2.2.2.2.2.1
    have hF8 : nF H'.1 ≤ 8 := (hB_F hi.1.1).2
    have hP5 : nP H'.1 ≤ 5 := (hB_P hi.1.1).2
    refine ⟨M4, x, r, H5.1.1, fA, hx, hc, H5.2.2.1, H5.2.2.2.1, ⟨n1, k1, fun f hf k hk => k2 f (by omega) k hk, k3, k4, fun p hp k hk => k5 p (by omega) k hk, k6⟩, n2, fun j hj => ?_, hi.1, hi.2.1⟩
    have h1 := HG j hj
    cases hx : H'.2.2.1 j with
    | none =>
      rw [hx] at h1
      exact h1
    | some l =>
      rw [hx] at h1
      obtain ⟨o2, a1, a2, a3, a4⟩ := h1
      exact ⟨o2, by omega, a2, a3, a4⟩
