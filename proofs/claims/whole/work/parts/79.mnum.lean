/-! The reference's reader: faults, what is asked, numbers, names. -/
theorem dgt_z {x : Int} (h : ¬ dgt x = 1) : dgt x = 0 := by
  unfold dgt at h ⊢
  by_cases g : 48 ≤ x ∧ x ≤ 57
  · exact absurd (if_pos g) h
  · exact if_neg g
theorem ltr_z {x : Int} (h : ¬ ltr x = 1) : ltr x = 0 := by
  unfold ltr at h ⊢
  by_cases g : 97 ≤ x ∧ x ≤ 122
  · exact absurd (if_pos g) h
  · exact if_neg g
/-- a fault -/
def mFa (L : Nat) (q : am_Pq) (Z : Nat → Nat → Int) (n : Nat) (M : am_M) (e : Int × Int) : Prop := am_Sh L q M ∧ (1 ≤ e.1 ∧ e.1 ≤ 5) ∧ am_I M 187 5 = am_i e.1 ∧ am_I M 187 6 = am_i e.2 ∧ (∃ a : Nat, a ≤ n ∧ am_I M 187 2 = am_i (a : Int)) ∧ am_I M 187 3 = am_i (n : Int) ∧ n ≤ 1600 ∧ (∀ k, k < 1600 → am_I M 188 k = am_i (Z 0 k)) ∧ mWw M ∧ ∀ k, 0 ≤ Z 0 k ∧ Z 0 k ≤ 255
def mS (L : Nat) (q : am_Pq) (Z : Nat → Nat → Int) (n : Nat) (M : am_M) : am_PS → Prop
  | .inl e => mFa L q Z n M e
  | .inr (s, t, _) => mP L q Z n M s t
theorem mFa_mv {L : Nat} {q : am_Pq} {Z : Nat → Nat → Int} {n : Nat} {M M' : am_M} {e : Int × Int} (H : mFa L q Z n M e) (S' : am_Sh L q M') (f : fr nR M M') : mFa L q Z n M' e := by
  obtain ⟨S, h1, e5, e6, ⟨a, ha, e2⟩, e3, hn, hT, hw, hz⟩ := H
  have g : ∀ b k, ¬ nR b k → am_I M' b k = am_I M b k := fun b k h => (f b k h).1
  exact ⟨S', h1, (g _ _ (by unfold nR; omega)).trans e5, (g _ _ (by unfold nR; omega)).trans e6, ⟨a, ha, (g _ _ (by unfold nR; omega)).trans e2⟩, (g _ _ (by unfold nR; omega)).trans e3, hn, fun k hk => (g _ _ (by unfold nR; omega)).trans (hT k hk), mWw_mv hw (fun b k h => g b k (by unfold nR; omega)), hz⟩
theorem mS_mv {L : Nat} {q : am_Pq} {Z : Nat → Nat → Int} {n : Nat} {M M' : am_M} {st : am_PS} (H : mS L q Z n M st) (S' : am_Sh L q M') (f : fr nR M M') : mS L q Z n M' st := by
  match st, H with
  | .inl e, H => exact mFa_mv H S' f
  | .inr (s, t, l), H => exact mP_mv H S' f
theorem mS_S {L : Nat} {q : am_Pq} {Z : Nat → Nat → Int} {n : Nat} {M : am_M} {st : am_PS} (H : mS L q Z n M st) : am_Sh L q M ∧ n ≤ 1600 ∧ (∀ k, 0 ≤ Z 0 k ∧ Z 0 k ≤ 255) := by
  match st, H with
  | .inl e, H => exact ⟨H.1, H.2.2.2.2.2.2.1, H.2.2.2.2.2.2.2.2.2⟩
  | .inr (s, t, l), H => have := mP_S H; exact ⟨this.1, this.2.2.2.1, this.2.2.2.2⟩
/-- what the reader writes -/
def rR (b k : Nat) : Prop := b = 187 ∧ ((2 ≤ k ∧ k ≤ 6) ∨ k = 39)
theorem m_fail {L : Nat} {q : am_Pq} {Z : Nat → Nat → Int} {n : Nat} {M : am_M} {s : Nat} {t : Bool} (H : mP L q Z n M s t) {c p : Int} (hc : 1 ≤ c ∧ c ≤ 5) (d : Nat) : ∃ M', am_cl 130 d [.ref 187, .int (am_i c), .int (am_i p)] M = some (none, M') ∧ mFa L q Z n M' (c, p) ∧ fr (fun b k => b = 187 ∧ (k = 5 ∨ k = 6)) M M' := by
  obtain ⟨a, ⟨S, HI, e2, e3, e5, ha, hn⟩, hs, ⟨e, e4, h1, h2, h3⟩, e6, hw, hz⟩ := H
  have S2 := S.sI 187 5 (am_i c)
  refine ⟨am_sI (am_sI M 187 5 (am_i c)) 187 6 (am_i p), ?_, ⟨S2.sI _ _ _, hc, by rw [am_I_ne2 (by decide), am_I_same], am_I_same _ _ _ _, ⟨a, ha, by rw [am_I_ne2 (by decide), am_I_ne2 (by decide)]; exact e2⟩, by rw [am_I_ne2 (by decide), am_I_ne2 (by decide)]; exact e3, hn, fun k hk => by rw [am_I_ne1 (by decide), am_I_ne1 (by decide)]; exact HI k hk, mWw_mv hw (fun b k h => by rw [am_I_ne1 (by omega), am_I_ne1 (by omega)]), hz⟩, fr_tr (fr_sI ⟨rfl, Or.inl rfl⟩) (fr_sI ⟨rfl, Or.inr rfl⟩)⟩
  rw [t130, am_ob_p (kk_187 S), e5, am_br_eq (by omega) (by omega) (by omega) (by omega), if_pos rfl, am_ob_p (kk_187 S)]
  simp only [am_lt]
  rw [am_ob_p (kk_187 S2)]
theorem mQ_at {L : Nat} {q : am_Pq} {Z : Nat → Nat → Int} {n : Nat} {M : am_M} {s : Nat} {t : Bool} (H : mQt L q Z n M s t) : am_I M 187 2 = am_i (s : Int) := H.1.2.2.1
/-- the word w is asked -/
def tkH (Z : Nat → Nat → Int) (n : Nat) (w : List Int) : am_PS → am_PS
  | .inl e => .inl e
  | .inr (s, t, l) => if hrb Z n s t w = true then nx Z n (.inr (s, t, l)) else .inl (1, (s : Int))
theorem m_asks {L : Nat} {q : am_Pq} {Z : Nat → Nat → Int} {n : Nat} {M : am_M} {st : am_PS} (H : mS L q Z n M st) {r : Nat} {w : List Int} (hw : wAt r w) (d : Nat) : ∃ M', am_cl 136 (d + 3) [.ref 187, .ref r] M = some (none, M') ∧ mS L q Z n M' (tkH Z n w st) ∧ fr rR M M' := by
  match st, H with
  | .inl e, H =>
    refine ⟨M, ?_, H, fr_rfl _ _⟩
    have e5 := H.2.2.1
    have he := H.2.1
    rw [t136, am_ob_p (kk_187 H.1), e5, am_br_ne (by omega) (by omega) (by omega) (by omega), if_neg (by omega)]
  | .inr (s, t, l), H =>
    have hp := mP_S H
    have S := hp.1
    have e5 := hp.2.1
    obtain ⟨M1, r1, h0, h1, f1⟩ := m_take H hw d
    rw [t136, am_ob_p (kk_187 S), e5, am_br_ne (by omega) (by omega) (by omega) (by omega), if_pos rfl, am_ob_p (kk_187 S), r1, am_bI_p, br_ne_b]
    show ∃ M', _ ∧ mS L q Z n M' (if hrb Z n s t w = true then nx Z n (.inr (s, t, l)) else .inl (1, (s : Int))) ∧ _
    by_cases g : hrb Z n s t w = true
    · rw [if_pos g, if_pos g]
      exact ⟨M1, rfl, h1 g, fr_mono f1 (fun b k h => ⟨h.1, by omega⟩)⟩
    · rw [if_neg g, if_neg g]
      have H1 := h0 g
      obtain ⟨M2, r2, H2, f2⟩ := m_fail (mQ_P H1) (c := 1) (p := (s : Int)) (by omega) (d + 2)
      refine ⟨M2, ?_, H2, fr_tr (fr_mono f1 (fun b k h => ⟨h.1, by omega⟩)) (fr_mono f2 (fun b k h => ⟨h.1, by omega⟩))⟩
      rw [am_ob_p (kk_187 H1.1.1), am_ob_p (kk_187 H1.1.1), mQ_at H1, r2, am_bV_p]
theorem m_asksG {L : Nat} {q : am_Pq} {Z : Nat → Nat → Int} {n : Nat} {M : am_M} {st : am_PS} (H : mS L q Z n M st) {x : Int} (h0 : 0 ≤ x) (h1 : x < 256) (hx1 : ¬ ltr x = 1) (hx2 : ¬ dgt x = 1) (d : Nat) : ∃ M', am_cl 138 (d + 2) [.ref 187, .int (am_i x)] M = some (none, M') ∧ mS L q Z n M' (tkG Z n x st) ∧ fr rR M M' := by
  match st, H with
  | .inl e, H =>
    refine ⟨M, ?_, H, fr_rfl _ _⟩
    have e5 := H.2.2.1
    have he := H.2.1
    rw [t138, am_ob_p (kk_187 H.1), e5, am_br_ne (by omega) (by omega) (by omega) (by omega), if_neg (by omega)]
  | .inr (s, t, l), H =>
    have hp := mP_S H
    have S := hp.1
    have e5 := hp.2.1
    obtain ⟨M1, r1, g0, g1, f1⟩ := m_tkG H h0 h1 hx1 hx2 d
    rw [t138, am_ob_p (kk_187 S), e5, am_br_ne (by omega) (by omega) (by omega) (by omega), if_pos rfl, am_ob_p (kk_187 S), r1, am_bI_p, br_ne_b]
    show ∃ M', _ ∧ mS L q Z n M' (if isG Z n x (.inr (s, t, [])) = true then nx Z n (.inr (s, t, l)) else .inl (1, (s : Int))) ∧ _
    by_cases g : isG Z n x (.inr (s, t, [])) = true
    · rw [if_pos g, if_pos g]
      exact ⟨M1, rfl, (g1 g).1, fr_mono f1 (fun b k h => ⟨h.1, by omega⟩)⟩
    · rw [if_neg g, if_neg g]
      have H1 := g0 g
      obtain ⟨M2, r2, H2, f2⟩ := m_fail (mQ_P H1) (c := 1) (p := (s : Int)) (by omega) (d + 1)
      refine ⟨M2, ?_, H2, fr_tr (fr_mono f1 (fun b k h => ⟨h.1, by omega⟩)) (fr_mono f2 (fun b k h => ⟨h.1, by omega⟩))⟩
      rw [am_ob_p (kk_187 H1.1.1), am_ob_p (kk_187 H1.1.1), mQ_at H1, r2, am_bV_p]
theorem m_num {L : Nat} {q : am_Pq} {Z : Nat → Nat → Int} {n : Nat} {M : am_M} {st : am_PS} (H : mS L q Z n M st) {lo hi : Int} (hlo : 0 ≤ lo ∧ lo ≤ 9999) (hhi : 0 ≤ hi ∧ hi ≤ 9999) (d : Nat) : ∃ M' v, am_cl 139 (d + 1) [.ref 187, .int (am_i lo), .int (am_i hi)] M = some (some (.int (am_i v)), M') ∧ mS L q Z n M' (tkN Z n lo hi st).1 ∧ (isE (tkN Z n lo hi st).1 = false → v = (tkN Z n lo hi st).2) ∧ 0 ≤ v ∧ v ≤ 9999 ∧ fr rR M M' := by
  match st, H with
  | .inl e, H =>
    refine ⟨M, 0, ?_, H, fun h => absurd h (by show ¬ true = false; decide), by omega, by omega, fr_rfl _ _⟩
    have e5 := H.2.2.1
    have he := H.2.1
    rw [t139, am_ob_p (kk_187 H.1), e5, am_br_eq (by omega) (by omega) (by omega) (by omega), if_neg (by omega)]
  | .inr (s, t, l), H =>
    have hp := mP_S H
    obtain ⟨S, e5, hsn, hn, hz⟩ := hp
    obtain ⟨M1, r1, H1, f1⟩ := m_lk H d
    have H1' := H1
    obtain ⟨⟨S1, HI, g2, g3, g5, -, -⟩, hs2, ⟨e, g4, h2, h3, h4⟩, g6, hww, -⟩ := H1
    have hkk := kd_kinds Z n s t
    have hb := hz s
    have fM1 : fr rR M M1 := fr_mono f1 (fun b k h => ⟨h.1, by omega⟩)
    have hF : tkN Z n lo hi (.inr (s, t, l)) = (if kd Z n s t = 2 then (if te Z n s - s ≤ 4 then (if lo ≤ nv Z s (te Z n s - s) ∧ nv Z s (te Z n s - s) ≤ hi then (nx Z n (.inr (s, t, l)), nv Z s (te Z n s - s)) else (.inl (2, (s : Int)), lo)) else (.inl (1, (s : Int) + 4), lo)) else (.inl (1, (s : Int)), lo)) := rfl
    have hb2 : -1 ≤ (if s < n then Z 0 s else -1) ∧ (if s < n then Z 0 s else -1) ≤ 255 := by split <;> omega
    rw [t139, am_ob_p (kk_187 S), e5, am_br_eq (by omega) (by omega) (by omega) (by omega), if_pos rfl, am_ob_p (kk_187 S), r1, am_bI_p, m_isDigit (by omega) (by omega), am_bI_p, hF]
    -- no number
    have no : ¬ kd Z n s t = 2 → ∃ M' v, am_bV (am_cl 130 d [.ref 187, .int (am_i 1), .int (am_I M1 187 2)] M1) (fun M5 => some (some (.int (am_i 0)), M5)) = some (some (.int (am_i v)), M') ∧ mS L q Z n M' (if kd Z n s t = 2 then (if te Z n s - s ≤ 4 then (if lo ≤ nv Z s (te Z n s - s) ∧ nv Z s (te Z n s - s) ≤ hi then (nx Z n (.inr (s, t, l)), nv Z s (te Z n s - s)) else (.inl (2, (s : Int)), lo)) else (.inl (1, (s : Int) + 4), lo)) else ((.inl (1, (s : Int)) : am_PS), lo)).1 ∧ (isE (if kd Z n s t = 2 then (if te Z n s - s ≤ 4 then (if lo ≤ nv Z s (te Z n s - s) ∧ nv Z s (te Z n s - s) ≤ hi then (nx Z n (.inr (s, t, l)), nv Z s (te Z n s - s)) else (.inl (2, (s : Int)), lo)) else (.inl (1, (s : Int) + 4), lo)) else ((.inl (1, (s : Int)) : am_PS), lo)).1 = false → v = (if kd Z n s t = 2 then (if te Z n s - s ≤ 4 then (if lo ≤ nv Z s (te Z n s - s) ∧ nv Z s (te Z n s - s) ≤ hi then (nx Z n (.inr (s, t, l)), nv Z s (te Z n s - s)) else (.inl (2, (s : Int)), lo)) else (.inl (1, (s : Int) + 4), lo)) else ((.inl (1, (s : Int)) : am_PS), lo)).2) ∧ 0 ≤ v ∧ v ≤ 9999 ∧ fr rR M M' := by
      intro h
      obtain ⟨M2, r2, H2, f2⟩ := m_fail (mQ_P H1') (c := 1) (p := (s : Int)) (by omega) d
      rw [if_neg h]
      exact ⟨M2, 0, by rw [g2, r2, am_bV_p], H2, fun h => absurd h (by show ¬ true = false; decide), by omega, by omega, fr_tr fM1 (fr_mono f2 (fun b k h => ⟨h.1, by omega⟩))⟩
    by_cases c1 : s < n ∧ dgt (Z 0 s) = 1
    · have c2 := dgt_1 c1.2
      have c3 : ¬ ltr (Z 0 s) = 1 := fun h => by have := ltr_1 h; omega
      rw [if_pos c1.1, c1.2, am_br_eq (by omega) (by omega) (by omega) (by omega), if_neg (by omega), am_ob_p (kk_187 S1), am_ob_p (kk_187 S1), g2, g4, am_br_ne (by omega) (by omega) (by omega) (by omega)]
      by_cases c4 : (s : Int) = e
      · have ht : t = true := h4.mpr c4.symm
        rw [if_pos c4, am_ob_p (kk_187 S1), am_ob_p (kk_187 S1), ← g2]
        exact no (fun h => by have := (hkk.2.1.mp h).2.2.2; rw [ht] at this; exact absurd this (by decide))
      · have ht : t = false := by
          cases t
          · rfl
          · exact absurd (h4.mp rfl).symm c4
        have hk2 : kd Z n s t = 2 := hkk.2.1.mpr ⟨c1.1, c3, c1.2, ht⟩
        have hte := (kd_2 hk2).2.2.2.2
        have hteb := te_bd Z hsn
        rw [if_neg c4, am_ob_p (kk_187 S1), if_pos hk2]
        have hdg : ∀ k, s ≤ k → k < te Z n s → dgt (Z 0 k) = 1 := fun k h1 h2 => by rw [hte] at h2; exact rn_in h1 h2
        have hgl : gl Z s = true := decide_eq_true (Or.inr c1.2)
        -- digit by digit
        have lp : ∀ m i : Nat, i + m = 4 → s + i ≤ te Z n s → rn dgt Z n s = rn dgt Z n (s + i) → ∀ M2 : am_M, am_Sh L q M2 → (∀ k, k < 1600 → am_I M2 188 k = am_i (Z 0 k)) → am_I M2 187 2 = am_i ((s : Int) + (i : Int)) → am_I M2 187 3 = am_i (n : Int) → ∃ M3, am_Sh L q M3 ∧ fr (fun b k => b = 187 ∧ k = 2) M2 M3 ∧ (if te Z n s - s ≤ 4 then am_I M3 187 2 = am_i (te Z n s : Int) ∧ am_ev 139 (d + 1) 49 [.ref 187, .int (am_i lo), .int (am_i hi), .int (am_i (s : Int)), .int (am_i (nv Z s i))] [] M2 = am_ev 139 (d + 1) 129 [.ref 187, .int (am_i lo), .int (am_i hi), .int (am_i (s : Int)), .int (am_i (nv Z s (te Z n s - s)))] [] M3 else am_I M3 187 2 = am_i ((s : Int) + 4) ∧ am_ev 139 (d + 1) 49 [.ref 187, .int (am_i lo), .int (am_i hi), .int (am_i (s : Int)), .int (am_i (nv Z s i))] [] M2 = am_bV (am_cl 130 d [.ref 187, .int (am_i 1), .int (am_i ((s : Int) + 4))] M3) (fun M7 => some (some (.int (am_i 0)), M7))) := by
          intro m
          induction m with
          | zero =>
            intro i hik hit hri M2 S2 hT2 k2 k3
            have hi4 : i = 4 := by omega
            subst hi4
            refine ⟨M2, S2, fr_rfl _ _, ?_⟩
            by_cases c5 : te Z n s - s ≤ 4
            · have hE : te Z n s = s + 4 := by omega
              rw [if_pos c5]
              refine ⟨by rw [k2, hE]; rfl, ?_⟩
              rw [show te Z n s - s = 4 by omega, t139_49, am_ob_p (kk_187 S2), am_ob_p (kk_187 S2), k2, k3, am_br_ge (by omega) (by omega) (by omega) (by omega)]
              by_cases c6 : (n : Int) ≤ (s : Int) + ((4 : Nat) : Int)
              · rw [if_pos c6]
              · have hnd : ¬ dgt (Z 0 (s + 4)) = 1 := fun h => by
                  have := rn_step (n := n) (show s + 4 < n by omega) h
                  have h2 := rn_bd dgt Z n (s + 4 + 1)
                  rw [← hte] at hri
                  omega
                have hd0 : dgt (Z 0 (s + 4)) = 0 := dgt_z hnd
                have hb4 := hz (s + 4)
                rw [if_neg c6, am_ob_p (kk_187 S2), rr_187_0 S2, am_gr_p, am_ob_p (kk_187 S2), am_ix_p (kk_188 S2) (by omega) (by omega) (by omega), am_i_ix (by omega) (by omega), show ((s : Int) + ((4 : Nat) : Int)).toNat = s + 4 by omega, hT2 (s + 4) (by omega), m_isDigit (by omega) (by omega), am_bI_p, hd0, am_br_eq (by omega) (by omega) (by omega) (by omega), if_pos rfl]
            · rw [if_neg c5]
              refine ⟨by rw [k2]; rfl, ?_⟩
              have hd4 := hdg (s + 4) (by omega) (by omega)
              have hb4 := hz (s + 4)
              rw [t139_49, am_ob_p (kk_187 S2), am_ob_p (kk_187 S2), k2, k3, am_br_ge (by omega) (by omega) (by omega) (by omega), if_neg (by omega), am_ob_p (kk_187 S2), rr_187_0 S2, am_gr_p, am_ob_p (kk_187 S2), am_ix_p (kk_188 S2) (by omega) (by omega) (by omega), am_i_ix (by omega) (by omega), show ((s : Int) + ((4 : Nat) : Int)).toNat = s + 4 by omega, hT2 (s + 4) (by omega), m_isDigit (by omega) (by omega), am_bI_p, hd4, am_br_eq (by omega) (by omega) (by omega) (by omega), if_neg (by omega), am_ob_p (kk_187 S2), k2, am_i_sub, am_br_ne (by omega) (by omega) (by omega) (by omega), if_pos (by omega), am_ob_p (kk_187 S2), am_ob_p (kk_187 S2)]
              rfl
          | succ m ih =>
            intro i hik hit hri M2 S2 hT2 k2 k3
            by_cases c5 : s + i = te Z n s
            · refine ⟨M2, S2, fr_rfl _ _, ?_⟩
              rw [if_pos (by omega)]
              refine ⟨by rw [k2, ← c5]; rfl, ?_⟩
              rw [show te Z n s - s = i by omega, t139_49, am_ob_p (kk_187 S2), am_ob_p (kk_187 S2), k2, k3, am_br_ge (by omega) (by omega) (by omega) (by omega)]
              by_cases c6 : (n : Int) ≤ (s : Int) + (i : Int)
              · rw [if_pos c6]
              · have hnd : ¬ dgt (Z 0 (s + i)) = 1 := fun h => by
                  have := rn_step (n := n) (show s + i < n by omega) h
                  have h2 := rn_bd dgt Z n (s + i + 1)
                  rw [← hte] at hri
                  omega
                have hd0 : dgt (Z 0 (s + i)) = 0 := dgt_z hnd
                have hb4 := hz (s + i)
                rw [if_neg c6, am_ob_p (kk_187 S2), rr_187_0 S2, am_gr_p, am_ob_p (kk_187 S2), am_ix_p (kk_188 S2) (by omega) (by omega) (by omega), am_i_ix (by omega) (by omega), show ((s : Int) + (i : Int)).toNat = s + i by omega, hT2 (s + i) (by omega), m_isDigit (by omega) (by omega), am_bI_p, hd0, am_br_eq (by omega) (by omega) (by omega) (by omega), if_pos rfl]
            · have hd4 := hdg (s + i) (by omega) (by omega)
              have hb4 := hz (s + i)
              have S3 := S2.sI 187 2 (am_i ((s : Int) + ((i + 1 : Nat) : Int)))
              obtain ⟨M3, S3', f3, h3⟩ := ih (i + 1) (by omega) (by omega) (by rw [hri, rn_step (by omega) hd4]; rfl) (am_sI M2 187 2 (am_i ((s : Int) + ((i + 1 : Nat) : Int)))) S3 (fun k hk => by rw [am_I_ne1 (by decide)]; exact hT2 k hk) (am_I_same _ _ _ _) (by rw [am_I_ne2 (by decide)]; exact k3)
              refine ⟨M3, S3', fr_tr (fr_sI ⟨rfl, rfl⟩) f3, ?_⟩
              have hst : am_ev 139 (d + 1) 49 [.ref 187, .int (am_i lo), .int (am_i hi), .int (am_i (s : Int)), .int (am_i (nv Z s i))] [] M2 = am_ev 139 (d + 1) 49 [.ref 187, .int (am_i lo), .int (am_i hi), .int (am_i (s : Int)), .int (am_i (nv Z s (i + 1)))] [] (am_sI M2 187 2 (am_i ((s : Int) + ((i + 1 : Nat) : Int)))) := by
                rw [t139_49, am_ob_p (kk_187 S2), am_ob_p (kk_187 S2), k2, k3, am_br_ge (by omega) (by omega) (by omega) (by omega), if_neg (by omega), am_ob_p (kk_187 S2), rr_187_0 S2, am_gr_p, am_ob_p (kk_187 S2), am_ix_p (kk_188 S2) (by omega) (by omega) (by omega), am_i_ix (by omega) (by omega), show ((s : Int) + (i : Int)).toNat = s + i by omega, hT2 (s + i) (by omega), m_isDigit (by omega) (by omega), am_bI_p, hd4, am_br_eq (by omega) (by omega) (by omega) (by omega), if_neg (by omega), am_ob_p (kk_187 S2), k2, am_i_sub, am_br_ne (by omega) (by omega) (by omega) (by omega), if_neg (by omega), am_ob_p (kk_187 S2), rr_187_0 S2, am_gr_p, am_ob_p (kk_187 S2), am_ix_p (kk_188 S2) (by omega) (by omega) (by omega), am_i_ix (by omega) (by omega), show ((s : Int) + (i : Int)).toNat = s + i by omega, hT2 (s + i) (by omega), am_i_mul, am_i_add, am_i_sub, am_lt, am_ob_p (kk_187 S2), am_ob_p (kk_187 S2), am_i_add, am_lt, show (s : Int) + (i : Int) + 1 = (s : Int) + ((i + 1 : Nat) : Int) by omega, show 10 * nv Z s i + Z 0 (s + i) - 48 = nv Z s (i + 1) by show _ = nv Z s i * 10 + Z 0 (s + i) - 48; omega]
              rw [hst]
              exact h3
        obtain ⟨M3, S3, f3, h3'⟩ := lp 4 0 rfl (by omega) rfl M1 S1 HI (by rw [g2]; rfl) g3
        have hv0 : (am_i 0) = am_i (nv Z s 0) := rfl
        rw [hv0]
        have hI3 : ∀ k, k < 1600 → am_I M3 188 k = am_i (Z 0 k) := fun k hk => by rw [(f3 188 k (by omega)).1]; exact HI k hk
        have k33 : am_I M3 187 3 = am_i (n : Int) := by rw [(f3 187 3 (by omega)).1]; exact g3
        have k35 : am_I M3 187 5 = am_i 0 := by rw [(f3 187 5 (by omega)).1]; exact g5
        have k36 : am_I M3 187 6 = am_i (-1) := by rw [(f3 187 6 (by omega)).1]; exact g6
        have hw3 : mWw M3 := mWw_mv hww (fun b k h => (f3 b k (by omega)).1)
        have f03 : fr rR M M3 := fr_tr fM1 (fr_mono f3 (fun b k h => ⟨h.1, by omega⟩))
        by_cases c5 : te Z n s - s ≤ 4
        · rw [if_pos c5] at h3'
          obtain ⟨k32, hev⟩ := h3'
          rw [if_pos c5, hev]
          obtain ⟨v, hv⟩ : ∃ v, v = nv Z s (te Z n s - s) := ⟨_, rfl⟩
          have hvb : 0 ≤ v ∧ v ≤ 9999 := by
            have h := nv_bd (te Z n s - s) c5 (fun k h1 h2 => hdg k h1 (by omega))
            have h2 : (10 : Int) ^ (te Z n s - s) ≤ 10000 := by
              have : te Z n s - s = 0 ∨ te Z n s - s = 1 ∨ te Z n s - s = 2 ∨ te Z n s - s = 3 ∨ te Z n s - s = 4 := by omega
              rcases this with h | h | h | h | h <;> rw [h] <;> decide
            omega
          rw [← hv]
          have S4 := S3.sI 187 4 (am_i (te Z n s : Int))
          have HP4 : mP L q Z n (am_sI M3 187 4 (am_i (te Z n s : Int))) (ns Z n s) (nt Z n s) := ⟨te Z n s, ⟨S4, fun k hk => by rw [am_I_ne1 (by decide)]; exact hI3 k hk, by rw [am_I_ne2 (by decide)]; exact k32, by rw [am_I_ne2 (by decide)]; exact k33, by rw [am_I_ne2 (by decide)]; exact k35, hteb.2.1, hn⟩, rfl, ⟨(te Z n s : Int), am_I_same _ _ _ _, by omega, by have := sk_bd Z n (te Z n s); unfold ns; omega, by
            unfold nt ns
            rw [hgl, Bool.true_and, decide_eq_true_iff]
            omega⟩, by rw [am_I_ne2 (by decide)]; exact k36, mWw_mv hw3 (fun b k h => by rw [am_I_ne1 (by omega)]), hz⟩
          have f04 : fr rR M (am_sI M3 187 4 (am_i (te Z n s : Int))) := fr_tr f03 (fr_sI ⟨rfl, by omega⟩)
          rw [t139_129, am_ob_p (kk_187 S3), am_ob_p (kk_187 S3), k32]
          simp only [am_lt]
          rw [am_i2l (by omega) (by omega), am_i2l (by omega) (by omega), am_i2l (by omega) (by omega), m_isIn (by omega) (by omega) (by omega) (by omega) (by omega) (by omega), am_bI_p]
          unfold isin
          by_cases c6 : lo ≤ v ∧ v ≤ hi
          · rw [if_pos c6, if_pos c6, am_br_ne (by omega) (by omega) (by omega) (by omega), if_neg (by omega)]
            exact ⟨_, v, rfl, HP4, fun _ => rfl, hvb.1, hvb.2, f04⟩
          · rw [if_neg c6, if_neg c6, am_br_ne (by omega) (by omega) (by omega) (by omega), if_pos rfl]
            obtain ⟨M5, r5, H5, f5⟩ := m_fail HP4 (c := 2) (p := (s : Int)) (by omega) d
            refine ⟨M5, v, by rw [am_ob_p (kk_187 S4), r5, am_bV_p], H5, fun h => absurd h (by show ¬ true = false; decide), hvb.1, hvb.2, fr_tr f04 (fr_mono f5 (fun b k h => ⟨h.1, by omega⟩))⟩
        · rw [if_neg c5] at h3'
          obtain ⟨k32, hev⟩ := h3'
          rw [if_neg c5, hev]
          -- the reader is within the number; it has no place of its own there
          have HF : ∃ M5, am_cl 130 d [.ref 187, .int (am_i 1), .int (am_i ((s : Int) + 4))] M3 = some (none, M5) ∧ mFa L q Z n M5 (1, (s : Int) + 4) ∧ fr (fun b k => b = 187 ∧ (k = 5 ∨ k = 6)) M3 M5 := by
            have S4 := S3.sI 187 5 (am_i 1)
            refine ⟨am_sI (am_sI M3 187 5 (am_i 1)) 187 6 (am_i ((s : Int) + 4)), ?_, ⟨S4.sI _ _ _, by omega, by rw [am_I_ne2 (by decide), am_I_same], am_I_same _ _ _ _, ⟨s + 4, by omega, by rw [am_I_ne2 (by decide), am_I_ne2 (by decide), k32]; rfl⟩, by rw [am_I_ne2 (by decide), am_I_ne2 (by decide)]; exact k33, hn, fun k hk => by rw [am_I_ne1 (by decide), am_I_ne1 (by decide)]; exact hI3 k hk, mWw_mv hw3 (fun b k h => by rw [am_I_ne1 (by omega), am_I_ne1 (by omega)]), hz⟩, fr_tr (fr_sI ⟨rfl, Or.inl rfl⟩) (fr_sI ⟨rfl, Or.inr rfl⟩)⟩
            rw [t130, am_ob_p (kk_187 S3), k35, am_br_eq (by omega) (by omega) (by omega) (by omega), if_pos rfl, am_ob_p (kk_187 S3)]
            simp only [am_lt]
            rw [am_ob_p (kk_187 S4)]
          obtain ⟨M5, r5, H5, f5⟩ := HF
          exact ⟨M5, 0, by rw [r5, am_bV_p], H5, fun h => absurd h (by show ¬ true = false; decide), by omega, by omega, fr_tr f03 (fr_mono f5 (fun b k h => ⟨h.1, by omega⟩))⟩
    · have hnk : ¬ kd Z n s t = 2 := fun h => c1 ⟨(hkk.2.1.mp h).1, (hkk.2.1.mp h).2.2.1⟩
      have hd0 : dgt (if s < n then Z 0 s else -1) = 0 := by
        by_cases c0 : s < n
        · rw [if_pos c0]
          have : ¬ dgt (Z 0 s) = 1 := fun h => c1 ⟨c0, h⟩
          exact dgt_z this
        · rw [if_neg c0]
          rfl
      rw [hd0, am_br_eq (by omega) (by omega) (by omega) (by omega), if_pos rfl, am_ob_p (kk_187 S1), am_ob_p (kk_187 S1)]
      exact no hnk
