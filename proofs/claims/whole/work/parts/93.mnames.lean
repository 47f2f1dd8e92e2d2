/-! The reference's names. -/
theorem dl_inr {st : am_PS} {s : Nat} {t : Bool} {l : List Int} (h : st = .inr (s, t, l)) : dl st = .inr (s, t, []) := by rw [h]; rfl
theorem m_name {L : Nat} {q : am_Pq} {Z : Nat → Nat → Int} {n : Nat} {M : am_M} {st : am_PS} (H : mS L q Z n M st) (d : Nat) : ∃ M' v, am_cl 141 (d + 3) [.ref 187] M = some (some (.long (am_l v)), M') ∧ mS L q Z n M' (nmS Z n st) ∧ (0 ≤ v ∧ v < 387420489) ∧ (∀ s t nm, nmS Z n st = .inr (s, t, nm) → v = c27 nm ∧ am_I M' 187 39 = am_i (psn st)) ∧ fr rR M M' := by
  match st, H with
  | .inl e, H =>
    refine ⟨M, 0, ?_, H, by omega, fun s t nm h => (by have h : (Sum.inl e : am_PS) = Sum.inr (s, t, nm) := h; cases h), fr_rfl _ _⟩
    have e5 : am_I M 187 5 = am_i e.1 := H.2.2.1
    have he : 1 ≤ e.1 ∧ e.1 ≤ 5 := H.2.1
    rw [t141, am_ob_p (kk_187 H.1), e5, am_br_eq (by omega) (by omega) (by omega) (by omega), if_neg (by omega)]
  | .inr (s, t, l), H =>
    obtain ⟨S, e5, hsn, hn, hz⟩ := mP_S H
    obtain ⟨M1, r1, H1, f1⟩ := m_lk H (d + 2)
    have H1' := H1
    obtain ⟨⟨S1, HI, g2, g3, g5, -, -⟩, hs2, ⟨e, g4, h2, h3, h4⟩, g6, hww, -⟩ := H1
    have hkk := kd_kinds Z n s t
    have hb := hz s
    have fM1 : fr rR M M1 := fr_mono f1 (fun b k h => ⟨h.1, by omega⟩)
    have hb2 : -1 ≤ (if s < n then Z 0 s else -1) ∧ (if s < n then Z 0 s else -1) ≤ 255 := by split <;> omega
    have hN : nmS Z n (.inr (s, t, l)) = match (if kd Z n s t = 1 ∧ ¬ (0 ≤ wno Z s (te Z n s) ∧ wno Z s (te Z n s) < 29) then (if te Z n s - s ≤ 6 then ((.inr (s, t, l) : am_PS), c5 (ltn Z s (te Z n s - s))) else (.inl (1, (s : Int) + 6), 0)) else (.inl (1, (s : Int)), 0)).1 with
      | .inl e => (.inl e : am_PS)
      | .inr _ => .inr (ns Z n s, nt Z n s, ltn Z s (te Z n s - s)) := rfl
    have h0 := t141 (d + 2) M 187
    rw [am_ob_p (kk_187 S), e5, am_br_eq (by omega) (by omega) (by omega) (by omega), if_pos rfl, am_ob_p (kk_187 S), r1, am_bI_p, m_isLetter (by omega) (by omega), am_bI_p] at h0
    -- a fault at the name's begin
    have no : ¬ (kd Z n s t = 1 ∧ ¬ (0 ≤ wno Z s (te Z n s) ∧ wno Z s (te Z n s) < 29)) → am_cl 141 (d + 2 + 1) [.ref 187] M = am_bV (am_cl 130 (d + 2) [.ref 187, .int (am_i 1), .int (am_i (s : Int))] M1) (fun M5 => some (some (.long (am_l 0)), M5)) → ∃ M' v, am_cl 141 (d + 3) [.ref 187] M = some (some (.long (am_l v)), M') ∧ mS L q Z n M' (nmS Z n (.inr (s, t, l))) ∧ (0 ≤ v ∧ v < 387420489) ∧ (∀ s' t' nm, nmS Z n (.inr (s, t, l)) = .inr (s', t', nm) → v = c27 nm ∧ am_I M' 187 39 = am_i (psn (.inr (s, t, l)))) ∧ fr rR M M' := by
      intro hk hev
      obtain ⟨M2, r2, H2, f2⟩ := m_fail (mQ_P H1') (c := 1) (p := (s : Int)) (by omega) (d + 2)
      rw [if_neg hk] at hN
      have hN : nmS Z n (.inr (s, t, l)) = .inl (1, (s : Int)) := hN
      rw [hN]
      rw [r2, am_bV_p] at hev
      exact ⟨M2, 0, hev, H2, by omega, fun s t nm h => (by cases h), fr_tr fM1 (fr_mono f2 (fun b k h => ⟨h.1, by omega⟩))⟩
    by_cases c1 : s < n ∧ ltr (Z 0 s) = 1
    · rw [if_pos c1.1, c1.2, am_br_eq (by omega) (by omega) (by omega) (by omega), if_neg (by omega), am_ob_p (kk_187 S1), am_ob_p (kk_187 S1), g2, g4, am_br_eq (by omega) (by omega) (by omega) (by omega)] at h0
      by_cases c4 : (s : Int) = e
      · have ht : t = true := h4.mpr c4.symm
        rw [if_pos c4, am_ob_p (kk_187 S1), am_ob_p (kk_187 S1)] at h0
        exact no (fun h => by have := (hkk.1.mp h.1).2.2; rw [ht] at this; exact absurd this (by decide)) h0
      · have ht : t = false := by
          cases t
          · rfl
          · exact absurd (h4.mp rfl).symm c4
        have hk1 : kd Z n s t = 1 := hkk.1.mpr ⟨c1.1, c1.2, ht⟩
        have hte := (kd_1 hk1).2.2.2
        have hteb := te_bd Z hsn
        rw [if_neg c4, am_ob_p (kk_187 S1), m_ownHere H1' d, am_bI_p, am_br_eq (show -2147483648 ≤ (if kd Z n s t = 1 ∧ 0 ≤ wno Z s (te Z n s) ∧ wno Z s (te Z n s) < 29 then (1 : Int) else 0) by split <;> omega) (by split <;> omega) (by omega) (by omega)] at h0
        by_cases c5' : 0 ≤ wno Z s (te Z n s) ∧ wno Z s (te Z n s) < 29
        · rw [if_pos (show kd Z n s t = 1 ∧ 0 ≤ wno Z s (te Z n s) ∧ wno Z s (te Z n s) < 29 from ⟨hk1, c5'⟩), if_neg (by omega), am_ob_p (kk_187 S1), am_ob_p (kk_187 S1), g2] at h0
          exact no (fun h => h.2 c5') h0
        · rw [if_neg (show ¬ (kd Z n s t = 1 ∧ 0 ≤ wno Z s (te Z n s) ∧ wno Z s (te Z n s) < 29) from fun h => c5' h.2), if_pos rfl, am_ob_p (kk_187 S1), am_ob_p (kk_187 S1), g2, am_lt] at h0
          rw [if_pos ⟨hk1, c5'⟩] at hN
          have hgl : gl Z s = true := decide_eq_true (Or.inl c1.2)
          have hlt : ∀ k, s ≤ k → k < te Z n s → ltr (Z 0 k) = 1 := fun k h1 h2 => by rw [hte] at h2; exact rn_in h1 h2
          -- letter by letter
          have lp : ∀ m i : Nat, i + m = 6 → s + i ≤ te Z n s → rn ltr Z n s = rn ltr Z n (s + i) → ∀ M2 : am_M, am_Sh L q M2 → (∀ k, k < 1600 → am_I M2 188 k = am_i (Z 0 k)) → am_I M2 187 2 = am_i ((s : Int) + (i : Int)) → am_I M2 187 3 = am_i (n : Int) → am_I M2 187 39 = am_i (s : Int) → ∀ vv, ∃ M3, am_Sh L q M3 ∧ fr (fun b k => b = 187 ∧ k = 2) M2 M3 ∧ (if te Z n s - s ≤ 6 then am_I M3 187 2 = am_i (te Z n s : Int) ∧ am_ev 141 (d + 2 + 1) 58 [.ref 187, .long (am_l (c27 (ltn Z s i))), vv] [] M2 = some (some (.long (am_l (c27 (ltn Z s (te Z n s - s))))), am_sI M3 187 4 (am_i (te Z n s : Int))) else am_I M3 187 2 = am_i ((s : Int) + 6) ∧ am_ev 141 (d + 2 + 1) 58 [.ref 187, .long (am_l (c27 (ltn Z s i))), vv] [] M2 = am_bV (am_cl 130 (d + 2) [.ref 187, .int (am_i 1), .int (am_i ((s : Int) + 6))] M3) (fun M7 => some (some (.long (am_l 0)), M7))) := by
            intro m
            induction m with
            | zero =>
              intro i hik hit hri M2 S2 hT2 k2 k3 k39 vv
              have hi4 : i = 6 := by omega
              subst hi4
              refine ⟨M2, S2, fr_rfl _ _, ?_⟩
              by_cases c5 : te Z n s - s ≤ 6
              · have hE : te Z n s = s + 6 := by omega
                rw [if_pos c5]
                refine ⟨by rw [k2, hE]; rfl, ?_⟩
                rw [show te Z n s - s = 6 by omega, t141_58, am_ob_p (kk_187 S2), am_ob_p (kk_187 S2), k2, k3, am_br_ge (by omega) (by omega) (by omega) (by omega)]
                by_cases c6 : (n : Int) ≤ (s : Int) + ((6 : Nat) : Int)
                · rw [if_pos c6, am_ob_p (kk_187 S2), am_ob_p (kk_187 S2), am_lt, hE]
                  rfl
                · have hnd : ¬ ltr (Z 0 (s + 6)) = 1 := fun h => by
                    have := rn_step (n := n) (show s + 6 < n by omega) h
                    have h2 := rn_bd ltr Z n (s + 6 + 1)
                    rw [← hte] at hri
                    omega
                  have hb4 := hz (s + 6)
                  rw [if_neg c6, am_ob_p (kk_187 S2), rr_187_0 S2, am_gr_p, am_ob_p (kk_187 S2), am_ix_p (kk_188 S2) (by omega) (by omega) (by omega), am_i_ix (by omega) (by omega), show ((s : Int) + ((6 : Nat) : Int)).toNat = s + 6 by omega, hT2 (s + 6) (by omega), m_isLetter (by omega) (by omega), am_bI_p, ltr_z hnd, am_br_eq (by omega) (by omega) (by omega) (by omega), if_pos rfl, am_ob_p (kk_187 S2), am_ob_p (kk_187 S2), k2, am_lt, hE]
                  rfl
              · rw [if_neg c5]
                refine ⟨by rw [k2]; rfl, ?_⟩
                have hd4 := hlt (s + 6) (by omega) (by omega)
                have hb4 := hz (s + 6)
                rw [t141_58, am_ob_p (kk_187 S2), am_ob_p (kk_187 S2), k2, k3, am_br_ge (by omega) (by omega) (by omega) (by omega), if_neg (by omega), am_ob_p (kk_187 S2), rr_187_0 S2, am_gr_p, am_ob_p (kk_187 S2), am_ix_p (kk_188 S2) (by omega) (by omega) (by omega), am_i_ix (by omega) (by omega), show ((s : Int) + ((6 : Nat) : Int)).toNat = s + 6 by omega, hT2 (s + 6) (by omega), m_isLetter (by omega) (by omega), am_bI_p, hd4, am_br_eq (by omega) (by omega) (by omega) (by omega), if_neg (by omega), am_ob_p (kk_187 S2), am_ob_p (kk_187 S2), k2, k39, am_i_sub, am_br_ne (by omega) (by omega) (by omega) (by omega), if_pos (by omega), am_ob_p (kk_187 S2), am_ob_p (kk_187 S2)]
                rfl
            | succ m ih =>
              intro i hik hit hri M2 S2 hT2 k2 k3 k39 vv
              by_cases c5 : s + i = te Z n s
              · refine ⟨M2, S2, fr_rfl _ _, ?_⟩
                rw [if_pos (by omega)]
                refine ⟨by rw [k2, ← c5]; rfl, ?_⟩
                rw [show te Z n s - s = i by omega, t141_58, am_ob_p (kk_187 S2), am_ob_p (kk_187 S2), k2, k3, am_br_ge (by omega) (by omega) (by omega) (by omega)]
                by_cases c6 : (n : Int) ≤ (s : Int) + (i : Int)
                · rw [if_pos c6, am_ob_p (kk_187 S2), am_ob_p (kk_187 S2), am_lt, ← c5]
                  rfl
                · have hnd : ¬ ltr (Z 0 (s + i)) = 1 := fun h => by
                    have := rn_step (n := n) (show s + i < n by omega) h
                    have h2 := rn_bd ltr Z n (s + i + 1)
                    rw [← hte] at hri
                    omega
                  have hb4 := hz (s + i)
                  rw [if_neg c6, am_ob_p (kk_187 S2), rr_187_0 S2, am_gr_p, am_ob_p (kk_187 S2), am_ix_p (kk_188 S2) (by omega) (by omega) (by omega), am_i_ix (by omega) (by omega), show ((s : Int) + (i : Int)).toNat = s + i by omega, hT2 (s + i) (by omega), m_isLetter (by omega) (by omega), am_bI_p, ltr_z hnd, am_br_eq (by omega) (by omega) (by omega) (by omega), if_pos rfl, am_ob_p (kk_187 S2), am_ob_p (kk_187 S2), k2, am_lt, ← c5]
                  rfl
              · have hd4 := hlt (s + i) (by omega) (by omega)
                have hd5 := ltr_1 hd4
                have hb4 := hz (s + i)
                have hcb := c27_bd (l := ltn Z s i) (ltn_lok (fun k h1 h2 => hlt k h1 (by omega))) (by rw [ltn_len]; omega)
                have S3 := S2.sI 187 2 (am_i ((s : Int) + ((i + 1 : Nat) : Int)))
                obtain ⟨M3, S3', f3, h3⟩ := ih (i + 1) (by omega) (by omega) (by rw [hri, rn_step (by omega) hd4]; rfl) (am_sI M2 187 2 (am_i ((s : Int) + ((i + 1 : Nat) : Int)))) S3 (fun k hk => by rw [am_I_ne1 (by decide)]; exact hT2 k hk) (am_I_same _ _ _ _) (by rw [am_I_ne2 (by decide)]; exact k3) (by rw [am_I_ne2 (by decide)]; exact k39) .null
                refine ⟨M3, S3', fr_tr (fr_sI ⟨rfl, rfl⟩) f3, ?_⟩
                have hst : am_ev 141 (d + 2 + 1) 58 [.ref 187, .long (am_l (c27 (ltn Z s i))), vv] [] M2 = am_ev 141 (d + 2 + 1) 58 [.ref 187, .long (am_l (c27 (ltn Z s (i + 1)))), .null] [] (am_sI M2 187 2 (am_i ((s : Int) + ((i + 1 : Nat) : Int)))) := by
                  rw [t141_58, am_ob_p (kk_187 S2), am_ob_p (kk_187 S2), k2, k3, am_br_ge (by omega) (by omega) (by omega) (by omega), if_neg (by omega), am_ob_p (kk_187 S2), rr_187_0 S2, am_gr_p, am_ob_p (kk_187 S2), am_ix_p (kk_188 S2) (by omega) (by omega) (by omega), am_i_ix (by omega) (by omega), show ((s : Int) + (i : Int)).toNat = s + i by omega, hT2 (s + i) (by omega), m_isLetter (by omega) (by omega), am_bI_p, hd4, am_br_eq (by omega) (by omega) (by omega) (by omega), if_neg (by omega), am_ob_p (kk_187 S2), am_ob_p (kk_187 S2), k2, k39, am_i_sub, am_br_ne (by omega) (by omega) (by omega) (by omega), if_neg (by omega), am_ob_p (kk_187 S2), rr_187_0 S2, am_gr_p, am_ob_p (kk_187 S2), am_ix_p (kk_188 S2) (by omega) (by omega) (by omega), am_i_ix (by omega) (by omega), show ((s : Int) + (i : Int)).toNat = s + i by omega, hT2 (s + i) (by omega), am_i2l (by omega) (by omega), am_l_mul, am_l_add, am_l_sub, am_l_add, am_lt, am_ob_p (kk_187 S2), am_ob_p (kk_187 S2), am_i_add, am_lt, show (s : Int) + (i : Int) + 1 = (s : Int) + ((i + 1 : Nat) : Int) by omega, ltn_succ, c27_app, show 27 * c27 (ltn Z s i) + Z 0 (s + i) - 97 + 1 = 27 * c27 (ltn Z s i) + (Z 0 (s + i) - 96) by omega]
                rw [hst]
                exact h3
          have S9 := S1.sI 187 39 (am_i (s : Int))
          obtain ⟨M3, S3, f3, h3'⟩ := lp 6 0 rfl (by omega) rfl (am_sI M1 187 39 (am_i (s : Int))) S9 (fun k hk => by rw [am_I_ne1 (by decide)]; exact HI k hk) (by rw [am_I_ne2 (by decide), g2]; rfl) (by rw [am_I_ne2 (by decide)]; exact g3) (am_I_same _ _ _ _) .null
          have f13 : fr (fun b k => b = 187 ∧ (k = 2 ∨ k = 39)) M1 M3 := fr_tr (fr_sI ⟨rfl, Or.inr rfl⟩) (fr_mono f3 (fun b k h => ⟨h.1, Or.inl h.2⟩))
          have hI3 : ∀ k, k < 1600 → am_I M3 188 k = am_i (Z 0 k) := fun k hk => by rw [(f13 188 k (by omega)).1]; exact HI k hk
          have k33 : am_I M3 187 3 = am_i (n : Int) := by rw [(f13 187 3 (by omega)).1]; exact g3
          have k35 : am_I M3 187 5 = am_i 0 := by rw [(f13 187 5 (by omega)).1]; exact g5
          have k36 : am_I M3 187 6 = am_i (-1) := by rw [(f13 187 6 (by omega)).1]; exact g6
          have k39' : am_I M3 187 39 = am_i (s : Int) := by rw [(f3 187 39 (by omega)).1, am_I_same]
          have hw3 : mWw M3 := mWw_mv hww (fun b k h => (f13 b k (by omega)).1)
          have f03 : fr rR M M3 := fr_tr fM1 (fr_mono f13 (fun b k h => ⟨h.1, by omega⟩))
          by_cases c5 : te Z n s - s ≤ 6
          · rw [if_pos c5] at h3' hN
            obtain ⟨k32, hev⟩ := h3'
            have hN : nmS Z n (.inr (s, t, l)) = .inr (ns Z n s, nt Z n s, ltn Z s (te Z n s - s)) := hN
            rw [hN]
            have HP4 : mP L q Z n (am_sI M3 187 4 (am_i (te Z n s : Int))) (ns Z n s) (nt Z n s) := ⟨te Z n s, ⟨S3.sI _ _ _, fun k hk => by rw [am_I_ne1 (by decide)]; exact hI3 k hk, by rw [am_I_ne2 (by decide)]; exact k32, by rw [am_I_ne2 (by decide)]; exact k33, by rw [am_I_ne2 (by decide)]; exact k35, hteb.2.1, hn⟩, rfl, ⟨(te Z n s : Int), am_I_same _ _ _ _, by omega, by have := sk_bd Z n (te Z n s); unfold ns; omega, by
              unfold nt ns
              rw [hgl, Bool.true_and, decide_eq_true_iff]
              omega⟩, by rw [am_I_ne2 (by decide)]; exact k36, mWw_mv hw3 (fun b k h => by rw [am_I_ne1 (by omega)]), hz⟩
            refine ⟨_, _, h0.trans hev, HP4, c27_bd (wrd_lok hk1) (by rw [ltn_len]; exact c5), fun s' t' nm h => ?_, fr_tr f03 (fr_sI ⟨rfl, by omega⟩)⟩
            rw [Sum.inr.injEq, Prod.mk.injEq, Prod.mk.injEq] at h
            exact ⟨by rw [h.2.2], by rw [am_I_ne2 (by decide)]; exact k39'⟩
          · rw [if_neg c5] at h3' hN
            obtain ⟨k32, hev⟩ := h3'
            have hN : nmS Z n (.inr (s, t, l)) = .inl (1, (s : Int) + 6) := hN
            rw [hN]
            have S4 := S3.sI 187 5 (am_i 1)
            have HF : am_cl 130 (d + 2) [.ref 187, .int (am_i 1), .int (am_i ((s : Int) + 6))] M3 = some (none, am_sI (am_sI M3 187 5 (am_i 1)) 187 6 (am_i ((s : Int) + 6))) := by
              rw [t130, am_ob_p (kk_187 S3), k35, am_br_eq (by omega) (by omega) (by omega) (by omega), if_pos rfl, am_ob_p (kk_187 S3)]
              simp only [am_lt]
              rw [am_ob_p (kk_187 S4)]
            rw [HF, am_bV_p] at hev
            have HFa : mFa L q Z n (am_sI (am_sI M3 187 5 (am_i 1)) 187 6 (am_i ((s : Int) + 6))) (1, (s : Int) + 6) := ⟨S4.sI _ _ _, by omega, by rw [am_I_ne2 (by decide), am_I_same], am_I_same _ _ _ _, ⟨s + 6, by omega, by rw [am_I_ne2 (by decide), am_I_ne2 (by decide), k32]; rfl⟩, by rw [am_I_ne2 (by decide), am_I_ne2 (by decide)]; exact k33, hn, fun k hk => by rw [am_I_ne1 (by decide), am_I_ne1 (by decide)]; exact hI3 k hk, mWw_mv hw3 (fun b k h => by rw [am_I_ne1 (by omega), am_I_ne1 (by omega)]), hz⟩
            exact ⟨_, 0, h0.trans hev, HFa, by omega, fun s t nm h => (by cases h), fr_tr f03 (fr_tr (fr_sI ⟨rfl, by omega⟩) (fr_sI ⟨rfl, by omega⟩))⟩
    · have hnk : ¬ kd Z n s t = 1 := fun h => c1 ⟨(hkk.1.mp h).1, (hkk.1.mp h).2.1⟩
      have hd0 : ltr (if s < n then Z 0 s else -1) = 0 := by
        by_cases c0 : s < n
        · rw [if_pos c0]
          exact ltr_z (fun h => c1 ⟨c0, h⟩)
        · rw [if_neg c0]
          rfl
      rw [hd0, am_br_eq (by omega) (by omega) (by omega) (by omega), if_pos rfl, am_ob_p (kk_187 S1), am_ob_p (kk_187 S1), g2] at h0
      exact no (fun h => hnk h.1) h0
/-- the reference's names and how many -/
def mNm (M : am_M) (X : am_X) (N : Nat → Nat → List Int) : Prop := (∀ k, k < 3 → am_I M 219 k = am_i (X 0 k 0)) ∧ (∀ s, s < 3 → ∀ w, w < nM X s → am_L M 220 (8 * s + w) = am_l (c27 (N s w))) ∧ xB X N
theorem mNm_mv {M M' : am_M} {X : am_X} {N : Nat → Nat → List Int} (H : mNm M X N) (e : ∀ b k, b = 219 ∨ b = 220 → am_I M' b k = am_I M b k ∧ am_L M' b k = am_L M b k) : mNm M' X N := ⟨fun k hk => (e 219 k (Or.inl rfl)).1.trans (H.1 k hk), fun s hs w hw => (e 220 _ (Or.inr rfl)).2.trans (H.2.1 s hs w hw), H.2.2⟩
theorem mNm_R {M M' : am_M} {X : am_X} {N : Nat → Nat → List Int} (H : mNm M X N) (f : fr rR M M') : mNm M' X N := mNm_mv H (fun b k h => f b k (by unfold rR; omega))
theorem m_nameOf {L : Nat} {q : am_Pq} {M : am_M} (S : am_Sh L q M) {X : am_X} {N : Nat → Nat → List Int} (HN : mNm M X N) {s : Nat} (hs : s < 3) {v : Int} (hv : 0 ≤ v ∧ v < 387420489) (d : Nat) : am_cl 144 d [.ref 187, .int (am_i (s : Int)), .long (am_l v)] M = some (some (.int (am_i (fndv (fun w => c27 (N s w)) v (nM X s)))), M) := by
  obtain ⟨h1, h2, h3⟩ := HN
  have hc := xB_c h3 hs
  have lp : ∀ m i : Nat, i + m = nM X s → (∀ k, k < i → c27 (N s k) ≠ v) → ∀ vv, am_ev 144 d 3 [.ref 187, .int (am_i (s : Int)), .long (am_l v), vv, .int (am_i (i : Int))] [] M = some (some (.int (am_i (fndv (fun w => c27 (N s w)) v (nM X s)))), M) := by
    intro m
    induction m with
    | zero =>
      intro i hi hk vv
      rw [fndv_no (fun k hk2 => hk k (by omega)), t144_3, am_ob_p (kk_187 S), rr_187_40 S, am_gr_p, am_ix_p (kk_219 S) (by omega) (by omega) (by omega), am_i_ix (by omega) (by omega), Int.toNat_natCast, h1 s hs, am_br_ge (by omega) (by omega) (by omega) (by omega), if_pos (by omega)]
    | succ m ih =>
      intro i hi hk vv
      have hok := xB_ok h3 hs (w := i) (by omega)
      have hb := c27_bd hok.1 hok.2.2
      rw [t144_3, am_ob_p (kk_187 S), rr_187_40 S, am_gr_p, am_ix_p (kk_219 S) (by omega) (by omega) (by omega), am_i_ix (by omega) (by omega), Int.toNat_natCast, h1 s hs, am_br_ge (by omega) (by omega) (by omega) (by omega), if_neg (by omega), am_ob_p (kk_187 S), rr_187_41 S, am_gr_p, am_i_mul, am_i_add, am_ix_p (kk_220 S) (by omega) (by omega) (by omega), am_i_ix (by omega) (by omega), show ((8 : Int) * (s : Int) + (i : Int)).toNat = 8 * s + i by omega, h2 s hs i (by omega), cmp_ne (by omega) (by omega) (by omega) (by omega)]
      by_cases g : c27 (N s i) = v
      · rw [if_pos g, fndv_at (i := i) hk g (by omega)]
      · rw [if_neg g, am_i_add]
        exact ih (i + 1) (by omega) (fun k hk2 => by
          by_cases g2 : k = i
          · subst g2; exact g
          · exact hk k (by omega)) _
  rw [t144]
  exact lp (nM X s) 0 (by omega) (fun k hk => absurd hk (by omega)) .null
