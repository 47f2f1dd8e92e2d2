/-! The reference: press, settings, people. -/
theorem wlHC : ∀ j : Fin 29, wlH.getD j.val [] = wlC.getD j.val [] := by decide +kernel
theorem m_asksH {L : Nat} {q : am_Pq} {Z : Nat → Nat → Int} {n : Nat} {M : am_M} {st : am_PS} (H : mS L q Z n M st) (i : Nat) (hi : i < 29) {r : Nat} (hr : r = 190 + i) {c : Int} (hc : c = (i : Int)) (d : Nat) : ∃ M', am_cl 136 (d + 3) [.ref 187, .ref r] M = some (none, M') ∧ mS L q Z n M' (tkW Z n c st) ∧ fr rR M M' := by
  subst hr
  subst hc
  obtain ⟨M', r, H', f'⟩ := m_asks H (wAt_H hi) d
  refine ⟨M', r, ?_, f'⟩
  match st, H' with
  | .inl e, H' => exact H'
  | .inr (s, t, l), H' =>
    unfold tkW
    rw [isW_hrb (by omega), ← wlHC ⟨i, hi⟩]
    exact H'
theorem pMt_187 {b k : Nat} (h : b = 187 ∧ ((2 ≤ k ∧ k ≤ 6) ∨ k = 39 ∨ k = 46 ∨ (k = 51 ∨ k = 53) ∨ (56 ≤ k ∧ k ≤ 59) ∨ k = 92 ∨ (94 ≤ k ∧ k ≤ 96) ∨ (98 ≤ k ∧ k ≤ 100))) : pMt b k := ⟨sM_187 (by omega), by omega⟩
theorem m_press {L : Nat} {q : am_Pq} {Z : Nat → Nat → Int} {n : Nat} {M : am_M} {s0 : Nat} {t0 : Bool} {H : am_HS} (HP : mP L q Z n M (ns Z n s0) (nt Z n s0)) (HH : mHt M H) (hpr : 0 ≤ H.1 7 0 0 ∧ H.1 7 0 0 < ((2 ^ nM H.1 2 : Nat) : Int)) (d : Nat) : ∃ M', am_cl 152 (d + 5) [.ref 187] M = some (none, M') ∧ mAf L q Z n M' (sPress Z n H (.inr (s0, t0, []))) ∧ fr pMt M M' := by
  have HS : mS L q Z n M (nx Z n (.inr (s0, t0, []))) := HP
  obtain ⟨M1, a, r1, H1, ba, ea, f1⟩ := m_oneOf HS HH.1 (s := 2) (by omega) d
  have H1 : mS L q Z n M1 (li1 Z n H (.inr (s0, t0, []))).1 := H1
  have r1 : am_cl 146 (d + 4) [.ref 187, .int (am_i 2)] M = some (some (.int (am_i a)), M1) := r1
  have h0 := t152 (d + 4) M 187
  have S1 := (mS_S H1).1
  rw [am_ob_p (kk_187 (mP_S HP).1), r1, am_bI_p, am_ob_p (kk_187 S1)] at h0
  have HH1 := mHt_R HH f1
  cases h1 : (li1 Z n H (.inr (s0, t0, []))).1 with
  | inl e =>
    rw [h1] at H1
    rw [(m_bad H1).1, t152_34, am_ob_p (kk_187 S1), (m_bad H1).1] at h0
    refine ⟨M1, h0, ?_, fr_mono f1 (fun b k h => rR_pMt h)⟩
    have hS : sPress Z n H (.inr (s0, t0, [])) = .inl e := by unfold sPress; simp only [h1]
    rw [hS]
    exact H1
  | inr x =>
    obtain ⟨s, t, l⟩ := x
    rw [h1] at H1
    have ea := ea (by show isE (li1 Z n H (.inr (s0, t0, []))).1 = false; rw [h1]; rfl)
    have ea0 : a = (li1 Z n H (.inr (s0, t0, []))).2 := ea.1
    have c2 := (xB_c HH.1.2.2 (s := 2) (by omega)).2.2
    have c25 := HH.1.2.2.2.2.1
    obtain ⟨p, hp⟩ : ∃ p : Nat, a = (p : Int) := ⟨a.toNat, by omega⟩
    have ht : (li1 Z n H (.inr (s0, t0, []))).2.toNat = p := by omega
    have h32 : 2 ^ nM H.1 2 ≤ 2 ^ 5 := Nat.pow_le_pow_right (by decide) (by omega)
    have hbp := bit_p hpr.1 (by omega) (p := p) (by omega)
    have hbq := bit_q hpr.1 (by omega) hpr.2 (p := p) (by omega)
    have e46 : am_I M1 187 46 = am_i (H.1 7 0 0) := HH1.2.1 7 0 0 (by unfold vd; omega)
    rw [(m_ok H1).1, am_ob_p (kk_187 S1), e46, hp, hbp, am_br_ne (by omega) (by omega) (by omega) (by omega)] at h0
    by_cases g : H.1 7 0 0 / ((2 ^ p : Nat) : Int) % 2 = 1
    · obtain ⟨M3, r3, H3, f3⟩ := m_fail H1 (c := 3) (p := psn (nx Z n (.inr (s0, t0, [])))) (by omega) (d + 4)
      rw [if_pos g, am_ob_p (kk_187 S1), am_ob_p (kk_187 S1), ea.2.2, r3, am_bV_p, t152_34, am_ob_p (kk_187 H3.1), (m_bad H3).1] at h0
      refine ⟨M3, h0, ?_, fr_tr (fr_mono f1 (fun b k h => rR_pMt h)) (fr_mono f3 (fun b k h => pMt_187 (by omega)))⟩
      have hS : sPress Z n H (.inr (s0, t0, [])) = .inl (3, psn (nx Z n (.inr (s0, t0, [])))) := by
        unfold sPress
        simp only [h1, ht]
        rw [if_pos g]
      rw [hS]
      exact H3
    · rw [if_neg g, t152_34, am_ob_p (kk_187 S1), (m_ok H1).1, am_ob_p (kk_187 S1), am_ob_p (kk_187 S1), e46, hbq.1, am_lt] at h0
      refine ⟨_, h0, ?_, fr_tr (fr_mono f1 (fun b k h => rR_pMt h)) (fr_sI (pMt_187 (by omega)))⟩
      have hS : sPress Z n H (.inr (s0, t0, [])) = .inr (s, t, uA H.1 7 0 0 (bon (H.1 7 0 0) p), H.2) := by
        unfold sPress
        simp only [h1, ht]
        rw [if_neg g]
      rw [hS]
      refine ⟨mP_mv H1 (S1.sI _ _ _) (fr_sI (by unfold nR; omega)), ?_, mHr_u HH1.2.1 (i := 7) (j := 0) (k := 0) (by unfold vd; omega) _ rfl rfl, mGx_mv HH1.2.2.1 (Nat.le_refl _) (fun b k g => am_I_ne1 (by omega)), by rw [am_I_ne2 (by omega)]; exact HH1.2.2.2.1, HH1.2.2.2.2⟩
      exact mNm_0 (mNm_mv HH1.1 (fun b k g => ⟨am_I_ne1 (by omega), rfl⟩)) (fun k => (uA_ne (by omega) : uA H.1 7 0 0 (bon (H.1 7 0 0) p) 0 k 0 = H.1 0 k 0))
/-- a setting, behind its word -/
def sSetS (Z : Nat → Nat → Int) (n i : Nat) (lo hi : Int) (H : am_HS) (st1 : am_PS) : am_SR := match (tkN Z n lo hi st1).1 with
  | .inl e => .inl e
  | .inr (s, t, _) => .inr (s, t, uA H.1 i 0 0 (tkN Z n lo hi st1).2, H.2)
theorem m_set {L : Nat} {q : am_Pq} {Z : Nat → Nat → Int} {n : Nat} {M : am_M} {st1 : am_PS} {H : am_HS} (HS : mS L q Z n M st1) (HH : mHt M H) {i : Nat} (hi : 8 ≤ i ∧ i < 12) {lo hi' : Int} (hlo : 0 ≤ lo ∧ lo ≤ 9999) (hhi : 0 ≤ hi' ∧ hi' ≤ 9999) {j : Int} (hj : j = ((i - 8 : Nat) : Int)) (K : am_M → am_Q) (d : Nat) : ∃ M', am_ob M 187 6 (am_gr (am_R M 187 47) (fun h40 => am_ob M 187 6 (am_bI (am_cl 139 (d + 1) [.ref 187, .int (am_i lo), .int (am_i hi')] M) (fun c42 M41 => am_iw M41 h40 2 (am_i j) (am_lt (am_sI M41 h40 (am_i j).toNatClampNeg c42) K) none)) none) none) none = K M' ∧ mAf L q Z n M' (sSetS Z n i lo hi' H st1) ∧ fr pMt M M' := by
  obtain ⟨M1, v, r1, H1, ev, bv1, bv2, f1⟩ := m_num HS hlo hhi d
  have S1 := (mS_S H1).1
  have HH1 := mHt_R HH f1
  subst hj
  refine ⟨am_sI M1 225 (i - 8) (am_i v), ?_, ?_, fr_tr (fr_mono f1 (fun b k h => rR_pMt h)) (fr_sI (pMt_225 ⟨rfl, by omega⟩))⟩
  · rw [am_ob_p (kk_187 (mS_S HS).1), rr_187_47 (mS_S HS).1, am_gr_p, am_ob_p (kk_187 (mS_S HS).1), r1, am_bI_p, am_iw_p (kk_225 S1) (by omega) (by omega) (by omega) (by omega), am_i_ix (by omega) (by omega), Int.toNat_natCast, am_lt]
  · unfold sSetS
    cases h1 : (tkN Z n lo hi' st1).1 with
    | inl e =>
      rw [h1] at H1
      exact mFa_mv H1 (S1.sI _ _ _) (fr_sI (by unfold nR; omega))
    | inr x =>
      obtain ⟨s, t, l⟩ := x
      rw [h1] at H1
      have ev := ev (by rw [h1]; rfl)
      simp only []
      rw [← ev]
      have hv : vd H.1 i 0 0 := by unfold vd; omega
      have hm := mad_c hv
      refine ⟨mP_mv H1 (S1.sI _ _ _) (fr_sI (by unfold nR; omega)), ?_, mHr_u HH1.2.1 hv _ (by omega) (by omega), mGx_mv HH1.2.2.1 (Nat.le_refl _) (fun b k g => am_I_ne1 (by omega)), by rw [am_I_ne1 (by omega)]; exact HH1.2.2.2.1, HH1.2.2.2.2⟩
      exact mNm_0 (mNm_mv HH1.1 (fun b k g => ⟨am_I_ne1 (by omega), rfl⟩)) (fun k => (uA_ne (by omega) : uA H.1 i 0 0 v 0 k 0 = H.1 0 k 0))
theorem m_person {L : Nat} {q : am_Pq} {Z : Nat → Nat → Int} {n : Nat} {M : am_M} {s0 : Nat} {t0 : Bool} {H : am_HS} (HP : mP L q Z n M (ns Z n s0) (nt Z n s0)) (HH : mHt M H) (d : Nat) : ∃ M', am_cl 150 (d + 5) [.ref 187, .int (am_i (s0 : Int))] M = some (none, M') ∧ mAf L q Z n M' (sPerson Z n H (.inr (s0, t0, []))) ∧ fr pMt M M' := by
  obtain ⟨M1, r1, H1, f1⟩ := m_isFull HP HH.1 (s := 2) (by omega) (s0 : Int) (d + 3)
  have h0 := t150 (d + 4) M 187 (am_i (s0 : Int))
  have r1 : am_cl 143 (d + 4) [.ref 187, .int (am_i 2), .int (am_i 5), .int (am_i (s0 : Int))] M = some (some (.int (am_i (if most3 2 ≤ H.1 0 2 0 then 1 else 0))), M1) := r1
  rw [am_ob_p (kk_187 (mP_S HP).1), r1, am_bI_p] at h0
  obtain ⟨R, hR⟩ : ∃ R, R = nwS Z n H.2.1 (nM H.1) (st1S Z n (most3 2 ≤ H.1 0 2 0) (.inr (s0, t0, []))) := ⟨_, rfl⟩
  unfold sPerson
  rw [← hR]
  unfold st1S at hR
  by_cases g : most3 2 ≤ H.1 0 2 0
  · rw [if_pos g] at h0 H1 hR
    rw [am_br_eq (by omega) (by omega) (by omega) (by omega), if_neg (by omega)] at h0
    have hR : R = .inl (5, (s0 : Int)) := hR
    subst hR
    exact ⟨M1, h0, H1, fr_mono f1 (fun b k h => rR_pMt h)⟩
  · rw [if_neg g] at h0 H1 hR
    have HH1 := mHt_R HH f1
    obtain ⟨M3, v, r3, H3, e3, f3⟩ := m_newName H1 HH1.1 d
    have H3 : mS L q Z n M3 R := by rw [hR]; exact H3
    have e3 : ∀ s t nm, R = .inr (s, t, nm) → v = c27 nm ∧ lok nm ∧ 1 ≤ nm.length ∧ nm.length ≤ 6 := by rw [hR]; exact e3
    have H3d : mS L q Z n M3 (dl R) := by
      match R, H3 with
      | .inl e, H3 => exact H3
      | .inr (s, t, nm), H3 => exact H3
    obtain ⟨M4, r4, H4, f4⟩ := m_asksH H3d 5 (by omega) (r := 195) rfl (c := 5) rfl (d + 1)
    obtain ⟨M5, a, r5, H5, ea, ba1, ba2, f5⟩ := m_num H4 (lo := 0) (hi := 23) (by omega) (by omega) (d + 3)
    have H5 : mS L q Z n M5 (pe1 Z n (dl R)).1 := H5
    obtain ⟨M6, r6, H6, f6⟩ := m_asksH H5 6 (by omega) (r := 196) rfl (c := 6) rfl (d + 1)
    obtain ⟨M7, b, r7, H7, eb, bb1, bb2, f7⟩ := m_num H6 (lo := a) (hi := 23) ⟨ba1, ba2⟩ (by omega) (d + 3)
    have S3 := (mS_S H3).1
    have S4 := (mS_S H4).1
    have S5 := (mS_S H5).1
    have S6 := (mS_S H6).1
    have S7 := (mS_S H7).1
    rw [am_br_eq (by omega) (by omega) (by omega) (by omega), if_pos rfl, am_ob_p (kk_187 (mS_S H1).1), r3, am_bL_p, am_ob_p (kk_187 S3), rr_187_15 S3, am_gr_p, am_ob_p (kk_187 S3), r4, am_bV_p, am_ob_p (kk_187 S4), r5, am_bI_p, am_ob_p (kk_187 S5), rr_187_16 S5, am_gr_p, am_ob_p (kk_187 S5), r6, am_bV_p, am_ob_p (kk_187 S6), r7, am_bI_p, am_ob_p (kk_187 S7)] at h0
    have f17 := fr_tr f1 (fr_tr f3 (fr_tr f4 (fr_tr f5 (fr_tr f6 f7))))
    have HH7 := mHt_R HH f17
    -- the second number's lower bound
    have hE : (tkN Z n a 23 (tkW Z n 6 (pe1 Z n (dl R)).1)).1 = (pe2 Z n (dl R)).1 ∧ (isE (pe1 Z n (dl R)).1 = false → a = (pe1 Z n (dl R)).2) := by
      refine ⟨?_, ea⟩
      unfold pe2
      cases hp : (pe1 Z n (dl R)).1 with
      | inl e => rfl
      | inr x => rw [ea (by show isE (pe1 Z n (dl R)).1 = false; rw [hp]; rfl)]; rfl
    rw [hE.1] at H7 eb
    cases hp : (pe2 Z n (dl R)).1 with
    | inl e =>
      rw [hp] at H7
      rw [(m_bad H7).2] at h0
      refine ⟨M7, h0, ?_, fr_mono f17 (fun b k h => rR_pMt h)⟩
      match R, hp with
      | .inl e', hp =>
        have hp : (Sum.inl e' : am_PS) = .inl e := hp
        rw [Sum.inl.inj hp]
        exact H7
      | .inr (s, t, nm), hp =>
        have hp : (pe2 Z n (.inr (s, t, []))).1 = .inl e := hp
        simp only [hp]
        exact H7
    | inr x =>
      obtain ⟨s', t', l'⟩ := x
      match R, hp, e3, hE, H7, eb with
      | .inl e', hp, e3, hE, H7, eb => cases hp
      | .inr (s, t, nm), hp, e3, hE, H7, eb =>
        rw [hp] at H7
        have hp : (pe2 Z n (.inr (s, t, []))).1 = .inr (s', t', l') := hp
        obtain ⟨e4, e5, e6, e7⟩ := e3 s t nm rfl
        subst e4
        have hE1 : isE (pe1 Z n (.inr (s, t, []))).1 = false := by
          cases hq : (pe1 Z n (.inr (s, t, []))).1 with
          | inl e =>
            exfalso
            have : (pe2 Z n (.inr (s, t, []))).1 = .inl e := by unfold pe2; rw [hq]; rfl
            rw [this] at hp
            cases hp
          | inr y => rfl
        have va : a = (pe1 Z n (.inr (s, t, []))).2 := hE.2 hE1
        have vb : b = (pe2 Z n (.inr (s, t, []))).2 := by
          have := eb (by rw [show (pe2 Z n (dl (.inr (s, t, nm)))).1 = (pe2 Z n (.inr (s, t, []))).1 from rfl, hp]; rfl)
          rw [this, va]
          rfl
        have c2 := (xB_c HH.1.2.2 (s := 2) (by omega)).2.2
        have hlt5 : ¬ (5 : Int) ≤ H.1 0 2 0 := g
        have hm5 : nM H.1 2 < 5 := by omega
        have em : am_I M7 219 2 = am_i ((nM H.1 2 : Nat) : Int) := by rw [c2.1]; exact HH7.1.1 2 (by omega)
        obtain ⟨M8, hM8⟩ : ∃ M8, M8 = am_sI M7 223 (2 * nM H.1 2) (am_i a) := ⟨_, rfl⟩
        have S8 : am_Sh L q M8 := by rw [hM8]; exact S7.sI _ _ _
        have em8 : am_I M8 219 2 = am_i ((nM H.1 2 : Nat) : Int) := by rw [hM8, am_I_ne1 (by omega)]; exact em
        obtain ⟨M9, hM9⟩ : ∃ M9, M9 = am_sI M8 223 (2 * nM H.1 2 + 1) (am_i b) := ⟨_, rfl⟩
        have S9 : am_Sh L q M9 := by rw [hM9]; exact S8.sI _ _ _
        have f89 : fr (fun b k => b = 223 ∧ (k = 2 * nM H.1 2 ∨ k = 2 * nM H.1 2 + 1)) M7 M9 := by
          rw [hM9, hM8]
          exact fr_tr (fr_sI ⟨rfl, Or.inl rfl⟩) (fr_sI ⟨rfl, Or.inr rfl⟩)
        obtain ⟨M10, r10, S10, H10, f10⟩ := m_adds S9 (mNm_mv HH7.1 (fun b k g => f89 b k (by omega))) (s := 2) (by omega) (by show H.1 0 2 0 < 5; omega) e5 e6 e7 (d + 4)
        have r10 : am_cl 147 (d + 4) [.ref 187, .int (am_i 2), .long (am_l (c27 nm))] M9 = some (none, M10) := r10
        rw [(m_ok H7).2, am_ob_p (kk_187 S7), rr_187_44 S7, am_gr_p, am_ob_p (kk_187 S7), rr_187_40 S7, am_gr_p, am_ix_p (kk_219 S7) (by omega) (by omega) (by omega), am_i_ix (by omega) (by omega), show Int.toNat 2 = 2 from rfl, em, am_i_mul, show (2 : Int) * ((nM H.1 2 : Nat) : Int) = ((2 * nM H.1 2 : Nat) : Int) by omega, am_iw_p (kk_223 S7) (by omega) (by omega) (by omega) (by omega), am_i_ix (by omega) (by omega), Int.toNat_natCast, am_lt, ← hM8, am_ob_p (kk_187 S8), rr_187_44 S8, am_gr_p, am_ob_p (kk_187 S8), rr_187_40 S8, am_gr_p, am_ix_p (kk_219 S8) (by omega) (by omega) (by omega), em8, am_i_mul, show (2 : Int) * ((nM H.1 2 : Nat) : Int) = ((2 * nM H.1 2 : Nat) : Int) by omega, am_i_add, show ((2 * nM H.1 2 : Nat) : Int) + 1 = ((2 * nM H.1 2 + 1 : Nat) : Int) by omega, am_iw_p (kk_223 S8) (by omega) (by omega) (by omega) (by omega), am_i_ix (by omega) (by omega), Int.toNat_natCast, am_lt, ← hM9, am_ob_p (kk_187 S9), r10, am_bV_p] at h0
        refine ⟨M10, h0, ?_, fr_tr (fr_mono f17 (fun b k h => rR_pMt h)) (fr_tr (fr_mono f89 (fun b k h => pMt_223 (by omega))) (fr_mono f10 (fun b k h => h.elim (fun h => pMt_219 h) (fun h => pMt_220 h))))⟩
        simp only [hp]
        rw [← va, ← vb]
        refine ⟨mP_mv (mP_mv H7 S9 (fr_mono f89 (fun b k h => by unfold nR; omega))) S10 (fr_mono f10 (fun b k h => by unfold nR; omega)), ?_, ?_, mGx_mv (mGx_mv HH7.2.2.1 (Nat.le_refl _) (fun b k g => (f89 b k (by omega)).1)) (Nat.le_refl _) (fun b k g => (f10 b k (by omega)).1), (((f10 _ _ (by omega)).1).trans (f89 _ _ (by omega)).1).trans HH7.2.2.2.1, HH7.2.2.2.2⟩
        · exact mNm_0 H10 (fun k => by
            show uA (uA (uA H.1 0 2 0 (H.1 0 2 0 + 1)) 4 (nM H.1 2) 0 a) 5 (nM H.1 2) 0 b 0 k 0 = _
            rw [uA_ne (i := 5) (by omega), uA_ne (i := 4) (by omega)])
        · intro a' b' c' hv
          show _ = am_i (uA (uA (uA H.1 0 2 0 (H.1 0 2 0 + 1)) 4 (nM H.1 2) 0 a) 5 (nM H.1 2) 0 b a' b' c')
          have hnm : ∀ a0, nM (uA (uA (uA H.1 0 2 0 (H.1 0 2 0 + 1)) 4 (nM H.1 2) 0 a) 5 (nM H.1 2) 0 b) a0 = if a0 = 2 then nM H.1 2 + 1 else nM H.1 a0 := fun a0 => by
            rw [nM_ne (by omega), nM_ne (by omega), nM_u]
            by_cases g : a0 = 2
            · rw [if_pos g, if_pos g]; omega
            · rw [if_neg g, if_neg g]
          have hv' : vd (uA (uA (uA H.1 0 2 0 (H.1 0 2 0 + 1)) 4 (nM H.1 2) 0 a) 5 (nM H.1 2) 0 b) a' b' c' := hv
          have hm := mad_c hv'
          unfold vd at hv'
          rw [hnm, hnm, if_neg (by omega), if_pos rfl] at hv'
          rw [(f10 _ _ (by omega)).1]
          by_cases g4 : a' = 4 ∧ b' = nM H.1 2
          · obtain ⟨rfl, rfl⟩ := g4
            have hc : c' = 0 := by omega
            subst hc
            rw [uA_ne (by omega), uA_eq, hM9, am_I_ne2 (by omega), hM8, show (mad 4 (nM H.1 2) 0) = (223, 2 * nM H.1 2) from rfl, am_I_same]
          · by_cases g5 : a' = 5 ∧ b' = nM H.1 2
            · obtain ⟨rfl, rfl⟩ := g5
              have hc : c' = 0 := by omega
              subst hc
              rw [uA_eq, hM9, show (mad 5 (nM H.1 2) 0) = (223, 2 * nM H.1 2 + 1) from rfl, am_I_same]
            · rw [uA_ne (by omega), uA_ne (by omega), uA_ne (by omega), (f89 _ _ (by omega)).1]
              exact HH7.2.1 a' b' c' (by unfold vd; omega)
