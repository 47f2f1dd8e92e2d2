/-! The reference: a statement. -/
theorem hrb_fw {Z : Nat → Nat → Int} {n s : Nat} {t : Bool} {j : Nat} (hj : j < 29) : hrb Z n s t (wlH.getD j []) = true ↔ fw Z n s t = (j : Int) := by
  unfold hrb fw
  rw [decide_eq_true_iff]
  by_cases g : kd Z n s t = 1
  · rw [if_pos g, wno_iff g (by omega), ← wlHC ⟨j, hj⟩]
    exact ⟨fun h => h.2, fun h => ⟨g, h⟩⟩
  · rw [if_neg g]
    exact ⟨fun h => absurd h.1 g, fun h => by omega⟩
theorem m_takeH {L : Nat} {q : am_Pq} {Z : Nat → Nat → Int} {n : Nat} {M : am_M} {s : Nat} {t : Bool} (H : mP L q Z n M s t) (j : Nat) (hj : j < 29) {r : Nat} (hr : r = 190 + j) (d : Nat) : ∃ M', am_cl 135 (d + 2) [.ref 187, .ref r] M = some (some (.int (am_i (if fw Z n s t = (j : Int) then 1 else 0))), M') ∧ (fw Z n s t ≠ (j : Int) → mP L q Z n M' s t) ∧ (fw Z n s t = (j : Int) → mP L q Z n M' (ns Z n s) (nt Z n s)) ∧ fr rR M M' := by
  subst hr
  obtain ⟨M', r, h1, h2, f⟩ := m_take H (wAt_H hj) d
  refine ⟨M', ?_, fun h => mQ_P (h1 (fun g => h ((hrb_fw hj).mp g))), fun h => h2 ((hrb_fw hj).mpr h), fr_mono f (fun b k h => by unfold rR; omega)⟩
  rw [r]
  by_cases g : fw Z n s t = (j : Int)
  · rw [if_pos g, if_pos ((hrb_fw hj).mpr g)]
  · rw [if_neg g, if_neg (fun h => g ((hrb_fw hj).mp h))]
def sEnd (Z : Nat → Nat → Int) (n : Nat) : am_SR → am_SR
  | .inl e => .inl e
  | .inr (s1, t1, H1) => match tkG Z n 59 (.inr (s1, t1, [])) with
    | .inl e => .inl e
    | .inr (s2, t2, _) => .inr (s2, t2, H1)
theorem sStm_end {Z : Nat → Nat → Int} {n : Nat} {H : am_HS} {s : Nat} {t : Bool} : sStm Z n H s t = sEnd Z n (sBod Z n (fw Z n s t) H (.inr (s, t, []))) := rfl
/-- behind a statement -/
def mAh (L : Nat) (q : am_Pq) (Z : Nat → Nat → Int) (n c : Nat) (M : am_M) : am_SR → Prop
  | .inl e => mFa L q Z n M e
  | .inr (s, t, H) => mP L q Z n M s t ∧ mHt M H ∧ am_I M 187 52 = am_i (c : Int)
def pMu (b k : Nat) : Prop := sM b k ∧ 187 ≤ b
theorem pMt_u {b k : Nat} (h : pMt b k) : pMu b k := ⟨h.1, h.2.1⟩
theorem m_sEnd {L : Nat} {q : am_Pq} {Z : Nat → Nat → Int} {n c : Nat} {M : am_M} {x : am_SR} (H : mAg L q Z n M x) (e52 : am_I M 187 52 = am_i (c : Int)) (v : Value) (d : Nat) : ∃ M', am_ev 154 (d + 2 + 1) 276 [.ref 187, v] [] M = some (none, M') ∧ mAh L q Z n (c + 1) M' (sEnd Z n x) ∧ fr pMu M M' := by
  have fW : ∀ M1 : am_M, fr pMu M1 (am_sI M1 187 52 (am_i ((c + 1 : Nat) : Int))) := fun M1 => fr_sI ⟨sM_187 (by omega), by omega⟩
  have fN : ∀ M1 : am_M, fr nR M1 (am_sI M1 187 52 (am_i ((c + 1 : Nat) : Int))) := fun M1 => fr_sI (by unfold nR; omega)
  have fR : ∀ {M M1 : am_M}, fr rR M M1 → fr pMu M M1 := fun f => fr_mono f (fun b k h => pMt_u (rR_pMt h))
  have run : ∀ M1, am_cl 138 (d + 2) [.ref 187, .int (am_i 59)] M = some (none, M1) → am_Sh L q M → am_Sh L q M1 → fr rR M M1 → am_ev 154 (d + 2 + 1) 276 [.ref 187, v] [] M = some (none, am_sI M1 187 52 (am_i ((c + 1 : Nat) : Int))) := fun M1 r S S1 f => by
    rw [t154_276, am_ob_p (kk_187 S), r, am_bV_p, am_ob_p (kk_187 S1), am_ob_p (kk_187 S1), (f 187 52 (by unfold rR; omega)).1, e52, am_i_add, am_lt]
    rfl
  have flt : ∀ e, mFa L q Z n M e → ∃ M', am_ev 154 (d + 2 + 1) 276 [.ref 187, v] [] M = some (none, M') ∧ mFa L q Z n M' e ∧ fr pMu M M' := fun e He => by
    obtain ⟨M1, r1, H1, f1⟩ := m_asksG (st := .inl e) He (x := 59) (by omega) (by omega) (by decide) (by decide) d
    have H1 : mFa L q Z n M1 e := H1
    exact ⟨_, run M1 r1 He.1 H1.1 f1, mFa_mv H1 (H1.1.sI _ _ _) (fN M1), fr_tr (fR f1) (fW M1)⟩
  match x, H with
  | .inl e, H => exact flt e H
  | .inr (s1, t1, H1), H =>
    rcases H with ⟨HP, HH⟩ | ⟨HF, hg⟩
    · obtain ⟨M1, r1, H2, f1⟩ := m_asksG (st := .inr (s1, t1, [])) HP (x := 59) (by omega) (by omega) (by decide) (by decide) d
      have S1 := (mS_S H2).1
      refine ⟨_, run M1 r1 (mP_S HP).1 S1 f1, ?_, fr_tr (fR f1) (fW M1)⟩
      unfold sEnd
      simp only []
      cases hg : tkG Z n 59 (.inr (s1, t1, [])) with
      | inl e =>
        rw [hg] at H2
        exact mFa_mv H2 (S1.sI _ _ _) (fN M1)
      | inr y =>
        obtain ⟨s2, t2, l2⟩ := y
        rw [hg] at H2
        obtain ⟨h1, h2, h3, h4, h5⟩ := mHt_R HH f1
        exact ⟨mP_mv H2 (S1.sI _ _ _) (fN M1), ⟨mNm_mv h1 (fun b k g => ⟨am_I_ne1 (by omega), rfl⟩), mHr_mv h2 (fun b k g => by
          by_cases g2 : b = 187
          · subst g2; exact am_I_ne2 (by omega)
          · exact am_I_ne1 g2), mGx_mv h3 (Nat.le_refl _) (fun b k g => am_I_ne1 (by omega)), by rw [am_I_ne2 (by omega)]; exact h4, h5⟩, am_I_same _ _ _ _⟩
    · obtain ⟨M', r, H', f⟩ := flt _ HF
      refine ⟨M', r, ?_, f⟩
      have e : sEnd Z n (.inr (s1, t1, H1)) = .inl (1, (s1 : Int)) := by
        unfold sEnd
        simp only []
        unfold tkG
        rw [if_neg (by rw [hg]; decide)]
        rfl
      rw [e]
      exact H'
theorem m_stmt {L : Nat} {q : am_Pq} {Z : Nat → Nat → Int} {n c : Nat} {M : am_M} {s : Nat} {t : Bool} {H : am_HS} (HQ : mQt L q Z n M s t) (HH : mHt M H) (hi : hI H s) (e52 : am_I M 187 52 = am_i (c : Int)) (hc : c < 80) (d : Nat) : ∃ M', am_cl 154 (d + 12) [.ref 187] M = some (none, M') ∧ mAh L q Z n (c + 1) M' (sStm Z n H s t) ∧ fr pMu M M' := by
  have HP := mQ_P HQ
  have S := (mP_S HP).1
  have e2 := mQ_at HQ
  have hwb := fw_bd Z n s t
  have hk1 : 0 ≤ fw Z n s t → kd Z n s t = 1 := fun h => by
    by_cases g : kd Z n s t = 1
    · exact g
    · unfold fw at h
      rw [if_neg g] at h
      omega
  rw [sStm_end]
  have fin : ∀ M1 x, mAg L q Z n M1 x → fr pMt M M1 → sBod Z n (fw Z n s t) H (.inr (s, t, [])) = x → am_cl 154 (d + 12) [.ref 187] M = am_ev 154 (d + 9 + 2 + 1) 276 [.ref 187, .int (am_i (s : Int))] [] M1 → ∃ M', am_cl 154 (d + 12) [.ref 187] M = some (none, M') ∧ mAh L q Z n (c + 1) M' (sEnd Z n (sBod Z n (fw Z n s t) H (.inr (s, t, [])))) ∧ fr pMu M M' := fun M1 x H1 f hx r => by
    obtain ⟨M', r', H', f'⟩ := m_sEnd H1 (((f 187 52 (fun h => h.2.2 ⟨rfl, rfl⟩)).1).trans e52) (.int (am_i (s : Int))) (d + 9)
    exact ⟨M', r.trans r', by rw [hx]; exact H', fr_tr (fr_mono f (fun b k h => pMt_u h)) f'⟩
  have h0 := t154 (d + 11) M 187
  rw [am_ob_p (kk_187 S), am_ob_p (kk_187 S), e52, e2, am_br_ne (by omega) (by omega) (by omega) (by omega), if_neg (by omega)] at h0
  have hM0 : fr rR M M := fr_rfl _ _
  obtain ⟨Ma0, r0, hn0, hy0, f0⟩ := m_takeH HP 0 (by omega) (r := 190) rfl (d + 9)
  have S0 : am_Sh L q Ma0 := by
    by_cases g : fw Z n s t = ((0 : Nat) : Int)
    · exact (mP_S (hy0 g)).1
    · exact (mP_S (hn0 g)).1
  rw [am_ob_p (kk_187 S), rr_187_10 S, am_gr_p, am_ob_p (kk_187 S), show d + 11 = d + 9 + 2 from rfl, r0, am_bI_p] at h0
  have fA0 := fr_tr hM0 f0
  by_cases g0 : fw Z n s t = ((0 : Nat) : Int)
  · rw [if_pos g0, am_br_eq (by omega) (by omega) (by omega) (by omega), if_neg (by omega)] at h0
    have hS : sBod Z n (fw Z n s t) H (.inr (s, t, [])) = sKind Z n H (.inr (s, t, [])) := by
      unfold sBod
      rw [if_pos (by omega)]
    obtain ⟨M1, r1, H1, f1⟩ := m_kind (s0 := s) (t0 := t) (hy0 g0) (mHt_R HH fA0) (d + 6)
    have r1 : am_cl 148 (d + 9 + 2) [.ref 187, .int (am_i (s : Int))] Ma0 = some (none, M1) := r1
    rw [am_ob_p (kk_187 S0), r1, am_bV_p] at h0
    exact fin M1 _ (mAf_g H1) (fr_tr (fr_mono fA0 (fun b k h => rR_pMt h)) f1) hS h0
  rw [if_neg g0, am_br_eq (by omega) (by omega) (by omega) (by omega), if_pos rfl] at h0
  obtain ⟨Ma1, r1, hn1, hy1, f1⟩ := m_takeH (hn0 g0) 1 (by omega) (r := 191) rfl (d + 9)
  have S1 : am_Sh L q Ma1 := by
    by_cases g : fw Z n s t = ((1 : Nat) : Int)
    · exact (mP_S (hy1 g)).1
    · exact (mP_S (hn1 g)).1
  rw [am_ob_p (kk_187 S0), rr_187_11 S0, am_gr_p, am_ob_p (kk_187 S0), show d + 11 = d + 9 + 2 from rfl, r1, am_bI_p] at h0
  have fA1 := fr_tr fA0 f1
  by_cases g1 : fw Z n s t = ((1 : Nat) : Int)
  · rw [if_pos g1, am_br_eq (by omega) (by omega) (by omega) (by omega), if_neg (by omega)] at h0
    have hS : sBod Z n (fw Z n s t) H (.inr (s, t, [])) = sFilm Z n H (.inr (s, t, [])) := by
      unfold sBod
      rw [if_neg (by omega), if_pos (by omega)]
    obtain ⟨M1, r1, H1, f1⟩ := m_film (s0 := s) (t0 := t) (hy1 g1) (mHt_R HH fA1) (d + 6)
    have r1 : am_cl 149 (d + 9 + 2) [.ref 187, .int (am_i (s : Int))] Ma1 = some (none, M1) := r1
    rw [am_ob_p (kk_187 S1), r1, am_bV_p] at h0
    exact fin M1 _ H1 (fr_tr (fr_mono fA1 (fun b k h => rR_pMt h)) f1) hS h0
  rw [if_neg g1, am_br_eq (by omega) (by omega) (by omega) (by omega), if_pos rfl] at h0
  obtain ⟨Ma4, r4, hn4, hy4, f4⟩ := m_takeH (hn1 g1) 4 (by omega) (r := 194) rfl (d + 9)
  have S4 : am_Sh L q Ma4 := by
    by_cases g : fw Z n s t = ((4 : Nat) : Int)
    · exact (mP_S (hy4 g)).1
    · exact (mP_S (hn4 g)).1
  rw [am_ob_p (kk_187 S1), rr_187_14 S1, am_gr_p, am_ob_p (kk_187 S1), show d + 11 = d + 9 + 2 from rfl, r4, am_bI_p] at h0
  have fA4 := fr_tr fA1 f4
  by_cases g4 : fw Z n s t = ((4 : Nat) : Int)
  · rw [if_pos g4, am_br_eq (by omega) (by omega) (by omega) (by omega), if_neg (by omega)] at h0
    have hS : sBod Z n (fw Z n s t) H (.inr (s, t, [])) = sPerson Z n H (.inr (s, t, [])) := by
      unfold sBod
      rw [if_neg (by omega), if_neg (by omega), if_pos (by omega)]
    obtain ⟨M1, r1, H1, f1⟩ := m_person (s0 := s) (t0 := t) (hy4 g4) (mHt_R HH fA4) (d + 6)
    have r1 : am_cl 150 (d + 9 + 2) [.ref 187, .int (am_i (s : Int))] Ma4 = some (none, M1) := r1
    rw [am_ob_p (kk_187 S4), r1, am_bV_p] at h0
    exact fin M1 _ (mAf_g H1) (fr_tr (fr_mono fA4 (fun b k h => rR_pMt h)) f1) hS h0
  rw [if_neg g4, am_br_eq (by omega) (by omega) (by omega) (by omega), if_pos rfl] at h0
  obtain ⟨Ma7, r7, hn7, hy7, f7⟩ := m_takeH (hn4 g4) 7 (by omega) (r := 197) rfl (d + 9)
  have S7 : am_Sh L q Ma7 := by
    by_cases g : fw Z n s t = ((7 : Nat) : Int)
    · exact (mP_S (hy7 g)).1
    · exact (mP_S (hn7 g)).1
  rw [am_ob_p (kk_187 S4), rr_187_17 S4, am_gr_p, am_ob_p (kk_187 S4), show d + 11 = d + 9 + 2 from rfl, r7, am_bI_p] at h0
  have fA7 := fr_tr fA4 f7
  by_cases g7 : fw Z n s t = ((7 : Nat) : Int)
  · rw [if_pos g7, am_br_eq (by omega) (by omega) (by omega) (by omega), if_neg (by omega)] at h0
    have hS : sBod Z n (fw Z n s t) H (.inr (s, t, [])) = sLikes Z n H (.inr (s, t, [])) := by
      unfold sBod
      rw [if_neg (by omega), if_neg (by omega), if_neg (by omega), if_pos (by omega)]
    obtain ⟨M1, r1, H1, f1⟩ := m_likes (s0 := s) (t0 := t) (hy7 g7) (mHt_R HH fA7) (d + 6)
    have r1 : am_cl 151 (d + 9 + 2) [.ref 187] Ma7 = some (none, M1) := r1
    rw [am_ob_p (kk_187 S7), r1, am_bV_p] at h0
    exact fin M1 _ (mAf_g H1) (fr_tr (fr_mono fA7 (fun b k h => rR_pMt h)) f1) hS h0
  rw [if_neg g7, am_br_eq (by omega) (by omega) (by omega) (by omega), if_pos rfl] at h0
  obtain ⟨Ma8, r8, hn8, hy8, f8⟩ := m_takeH (hn7 g7) 8 (by omega) (r := 198) rfl (d + 9)
  have S8 : am_Sh L q Ma8 := by
    by_cases g : fw Z n s t = ((8 : Nat) : Int)
    · exact (mP_S (hy8 g)).1
    · exact (mP_S (hn8 g)).1
  rw [am_ob_p (kk_187 S7), rr_187_18 S7, am_gr_p, am_ob_p (kk_187 S7), show d + 11 = d + 9 + 2 from rfl, r8, am_bI_p] at h0
  have fA8 := fr_tr fA7 f8
  by_cases g8 : fw Z n s t = ((8 : Nat) : Int)
  · rw [if_pos g8, am_br_eq (by omega) (by omega) (by omega) (by omega), if_neg (by omega)] at h0
    have hS : sBod Z n (fw Z n s t) H (.inr (s, t, [])) = sPress Z n H (.inr (s, t, [])) := by
      unfold sBod
      rw [if_neg (by omega), if_neg (by omega), if_neg (by omega), if_neg (by omega), if_pos (by omega)]
    obtain ⟨M1, r1, H1, f1⟩ := m_press (s0 := s) (t0 := t) (hy8 g8) (mHt_R HH fA8) hi.1.1.2.2.2.2.2.2.2.2.1 (d + 6)
    have r1 : am_cl 152 (d + 9 + 2) [.ref 187] Ma8 = some (none, M1) := r1
    rw [am_ob_p (kk_187 S8), r1, am_bV_p] at h0
    exact fin M1 _ (mAf_g H1) (fr_tr (fr_mono fA8 (fun b k h => rR_pMt h)) f1) hS h0
  rw [if_neg g8, am_br_eq (by omega) (by omega) (by omega) (by omega), if_pos rfl] at h0
  obtain ⟨Ma9, r9, hn9, hy9, f9⟩ := m_takeH (hn8 g8) 9 (by omega) (r := 199) rfl (d + 9)
  have S9 : am_Sh L q Ma9 := by
    by_cases g : fw Z n s t = ((9 : Nat) : Int)
    · exact (mP_S (hy9 g)).1
    · exact (mP_S (hn9 g)).1
  rw [am_ob_p (kk_187 S8), rr_187_19 S8, am_gr_p, am_ob_p (kk_187 S8), show d + 11 = d + 9 + 2 from rfl, r9, am_bI_p] at h0
  have fA9 := fr_tr fA8 f9
  by_cases g9 : fw Z n s t = ((9 : Nat) : Int)
  · rw [if_pos g9, am_br_eq (by omega) (by omega) (by omega) (by omega), if_neg (by omega)] at h0
    have hS : sBod Z n (fw Z n s t) H (.inr (s, t, [])) = sForm Z n 0 H (.inr (s, t, [])) := by
      unfold sBod
      rw [if_neg (by omega), if_neg (by omega), if_neg (by omega), if_neg (by omega), if_neg (by omega), if_pos (by omega)]
    obtain ⟨M1, r1, H1, f1⟩ := m_codes (s0 := s) (t0 := t) (hy9 g9) (hk1 (by omega)) (mHt_R HH fA9) hi.2.2.1 hi.2.2.2 (j := 0) (by omega) d
    have r1 : am_cl 153 (d + 9 + 2) [.ref 187, .int (am_i 0), .int (am_i (s : Int))] Ma9 = some (none, M1) := r1
    rw [am_ob_p (kk_187 S9), r1, am_bV_p] at h0
    exact fin M1 _ (mAf_g H1) (fr_tr (fr_mono fA9 (fun b k h => rR_pMt h)) f1) hS h0
  rw [if_neg g9, am_br_eq (by omega) (by omega) (by omega) (by omega), if_pos rfl] at h0
  obtain ⟨Ma10, r10, hn10, hy10, f10⟩ := m_takeH (hn9 g9) 10 (by omega) (r := 200) rfl (d + 9)
  have S10 : am_Sh L q Ma10 := by
    by_cases g : fw Z n s t = ((10 : Nat) : Int)
    · exact (mP_S (hy10 g)).1
    · exact (mP_S (hn10 g)).1
  rw [am_ob_p (kk_187 S9), rr_187_20 S9, am_gr_p, am_ob_p (kk_187 S9), show d + 11 = d + 9 + 2 from rfl, r10, am_bI_p] at h0
  have fA10 := fr_tr fA9 f10
  by_cases g10 : fw Z n s t = ((10 : Nat) : Int)
  · rw [if_pos g10, am_br_eq (by omega) (by omega) (by omega) (by omega), if_neg (by omega)] at h0
    have hS : sBod Z n (fw Z n s t) H (.inr (s, t, [])) = sForm Z n 1 H (.inr (s, t, [])) := by
      unfold sBod
      rw [if_neg (by omega), if_neg (by omega), if_neg (by omega), if_neg (by omega), if_neg (by omega), if_neg (by omega), if_pos (by omega)]
    obtain ⟨M1, r1, H1, f1⟩ := m_codes (s0 := s) (t0 := t) (hy10 g10) (hk1 (by omega)) (mHt_R HH fA10) hi.2.2.1 hi.2.2.2 (j := 1) (by omega) d
    have r1 : am_cl 153 (d + 9 + 2) [.ref 187, .int (am_i 1), .int (am_i (s : Int))] Ma10 = some (none, M1) := r1
    rw [am_ob_p (kk_187 S10), r1, am_bV_p] at h0
    exact fin M1 _ (mAf_g H1) (fr_tr (fr_mono fA10 (fun b k h => rR_pMt h)) f1) hS h0
  rw [if_neg g10, am_br_eq (by omega) (by omega) (by omega) (by omega), if_pos rfl] at h0
  obtain ⟨Ma11, r11, hn11, hy11, f11⟩ := m_takeH (hn10 g10) 11 (by omega) (r := 201) rfl (d + 9)
  have S11 : am_Sh L q Ma11 := by
    by_cases g : fw Z n s t = ((11 : Nat) : Int)
    · exact (mP_S (hy11 g)).1
    · exact (mP_S (hn11 g)).1
  rw [am_ob_p (kk_187 S10), rr_187_21 S10, am_gr_p, am_ob_p (kk_187 S10), show d + 11 = d + 9 + 2 from rfl, r11, am_bI_p] at h0
  have fA11 := fr_tr fA10 f11
  by_cases g11 : fw Z n s t = ((11 : Nat) : Int)
  · rw [if_pos g11, am_br_eq (by omega) (by omega) (by omega) (by omega), if_neg (by omega)] at h0
    have hS : sBod Z n (fw Z n s t) H (.inr (s, t, [])) = sForm Z n 2 H (.inr (s, t, [])) := by
      unfold sBod
      rw [if_neg (by omega), if_neg (by omega), if_neg (by omega), if_neg (by omega), if_neg (by omega), if_neg (by omega), if_neg (by omega), if_pos (by omega)]
    obtain ⟨M1, r1, H1, f1⟩ := m_codes (s0 := s) (t0 := t) (hy11 g11) (hk1 (by omega)) (mHt_R HH fA11) hi.2.2.1 hi.2.2.2 (j := 2) (by omega) d
    have r1 : am_cl 153 (d + 9 + 2) [.ref 187, .int (am_i 2), .int (am_i (s : Int))] Ma11 = some (none, M1) := r1
    rw [am_ob_p (kk_187 S11), r1, am_bV_p] at h0
    exact fin M1 _ (mAf_g H1) (fr_tr (fr_mono fA11 (fun b k h => rR_pMt h)) f1) hS h0
  rw [if_neg g11, am_br_eq (by omega) (by omega) (by omega) (by omega), if_pos rfl] at h0
  obtain ⟨Ma12, r12, hn12, hy12, f12⟩ := m_takeH (hn11 g11) 12 (by omega) (r := 202) rfl (d + 9)
  have S12 : am_Sh L q Ma12 := by
    by_cases g : fw Z n s t = ((12 : Nat) : Int)
    · exact (mP_S (hy12 g)).1
    · exact (mP_S (hn12 g)).1
  rw [am_ob_p (kk_187 S11), rr_187_22 S11, am_gr_p, am_ob_p (kk_187 S11), show d + 11 = d + 9 + 2 from rfl, r12, am_bI_p] at h0
  have fA12 := fr_tr fA11 f12
  by_cases g12 : fw Z n s t = ((12 : Nat) : Int)
  · rw [if_pos g12, am_br_eq (by omega) (by omega) (by omega) (by omega), if_neg (by omega)] at h0
    have hS : sBod Z n (fw Z n s t) H (.inr (s, t, [])) = sSet Z n 8 1 5 H (.inr (s, t, [])) := by
      unfold sBod
      rw [if_neg (by omega), if_neg (by omega), if_neg (by omega), if_neg (by omega), if_neg (by omega), if_neg (by omega), if_neg (by omega), if_neg (by omega), if_pos (by omega)]
    obtain ⟨M1, r1, H1, f1⟩ := m_set (st1 := nx Z n (.inr (s, t, []))) (hy12 g12) (mHt_R HH fA12) (i := 8) (by omega) (lo := 1) (hi' := 5) (by omega) (by omega) (j := 0) rfl (fun M1 => am_ev 154 (d + 9 + 2 + 1) 276 [.ref 187, .int (am_i (s : Int))] [] M1) (d + 10)
    exact fin M1 _ (mAf_g H1) (fr_tr (fr_mono fA12 (fun b k h => rR_pMt h)) f1) hS (h0.trans r1)
  rw [if_neg g12, am_br_eq (by omega) (by omega) (by omega) (by omega), if_pos rfl] at h0
  obtain ⟨Ma13, r13, hn13, hy13, f13⟩ := m_takeH (hn12 g12) 13 (by omega) (r := 203) rfl (d + 9)
  have S13 : am_Sh L q Ma13 := by
    by_cases g : fw Z n s t = ((13 : Nat) : Int)
    · exact (mP_S (hy13 g)).1
    · exact (mP_S (hn13 g)).1
  rw [am_ob_p (kk_187 S12), rr_187_23 S12, am_gr_p, am_ob_p (kk_187 S12), show d + 11 = d + 9 + 2 from rfl, r13, am_bI_p] at h0
  have fA13 := fr_tr fA12 f13
  by_cases g13 : fw Z n s t = ((13 : Nat) : Int)
  · rw [if_pos g13, am_br_eq (by omega) (by omega) (by omega) (by omega), if_neg (by omega)] at h0
    have hS : sBod Z n (fw Z n s t) H (.inr (s, t, [])) = sSet Z n 9 0 999 H (.inr (s, t, [])) := by
      unfold sBod
      rw [if_neg (by omega), if_neg (by omega), if_neg (by omega), if_neg (by omega), if_neg (by omega), if_neg (by omega), if_neg (by omega), if_neg (by omega), if_neg (by omega), if_pos (by omega)]
    obtain ⟨M1, r1, H1, f1⟩ := m_set (st1 := nx Z n (.inr (s, t, []))) (hy13 g13) (mHt_R HH fA13) (i := 9) (by omega) (lo := 0) (hi' := 999) (by omega) (by omega) (j := 1) rfl (fun M1 => am_ev 154 (d + 9 + 2 + 1) 276 [.ref 187, .int (am_i (s : Int))] [] M1) (d + 10)
    exact fin M1 _ (mAf_g H1) (fr_tr (fr_mono fA13 (fun b k h => rR_pMt h)) f1) hS (h0.trans r1)
  rw [if_neg g13, am_br_eq (by omega) (by omega) (by omega) (by omega), if_pos rfl] at h0
  obtain ⟨Ma14, r14, hn14, hy14, f14⟩ := m_takeH (hn13 g13) 14 (by omega) (r := 204) rfl (d + 9)
  have S14 : am_Sh L q Ma14 := by
    by_cases g : fw Z n s t = ((14 : Nat) : Int)
    · exact (mP_S (hy14 g)).1
    · exact (mP_S (hn14 g)).1
  rw [am_ob_p (kk_187 S13), rr_187_24 S13, am_gr_p, am_ob_p (kk_187 S13), show d + 11 = d + 9 + 2 from rfl, r14, am_bI_p] at h0
  have fA14 := fr_tr fA13 f14
  by_cases g14 : fw Z n s t = ((14 : Nat) : Int)
  · rw [if_pos g14, am_br_eq (by omega) (by omega) (by omega) (by omega), if_neg (by omega)] at h0
    have hS : sBod Z n (fw Z n s t) H (.inr (s, t, [])) = sSet Z n 10 0 99 H (.inr (s, t, [])) := by
      unfold sBod
      rw [if_neg (by omega), if_neg (by omega), if_neg (by omega), if_neg (by omega), if_neg (by omega), if_neg (by omega), if_neg (by omega), if_neg (by omega), if_neg (by omega), if_neg (by omega), if_pos (by omega)]
    obtain ⟨M1, r1, H1, f1⟩ := m_set (st1 := nx Z n (.inr (s, t, []))) (hy14 g14) (mHt_R HH fA14) (i := 10) (by omega) (lo := 0) (hi' := 99) (by omega) (by omega) (j := 2) rfl (fun M1 => am_ev 154 (d + 9 + 2 + 1) 276 [.ref 187, .int (am_i (s : Int))] [] M1) (d + 10)
    exact fin M1 _ (mAf_g H1) (fr_tr (fr_mono fA14 (fun b k h => rR_pMt h)) f1) hS (h0.trans r1)
  rw [if_neg g14, am_br_eq (by omega) (by omega) (by omega) (by omega), if_pos rfl] at h0
  have HS14 : mS L q Z n Ma14 (.inr (s, t, [])) := hn14 g14
  obtain ⟨M2, r2, H2, f2⟩ := m_asksH HS14 15 (by omega) (r := 205) rfl (c := 15) rfl (d + 8)
  have S2 := (mS_S H2).1
  have r2 : am_cl 136 (d + 9 + 2) [.ref 187, .ref 205] Ma14 = some (none, M2) := r2
  rw [am_ob_p (kk_187 S14), rr_187_25 S14, am_gr_p, am_ob_p (kk_187 S14), r2, am_bV_p] at h0
  have fA := fr_tr fA14 f2
  obtain ⟨M1, r1, H1, f1⟩ := m_set H2 (mHt_R HH fA) (i := 11) (by omega) (lo := 0) (hi' := 100) (by omega) (by omega) (j := 3) rfl (fun M1 => am_ev 154 (d + 9 + 2 + 1) 276 [.ref 187, .int (am_i (s : Int))] [] M1) (d + 10)
  refine fin M1 _ (mAf_g H1) (fr_tr (fr_mono fA (fun b k h => rR_pMt h)) f1) ?_ (h0.trans r1)
  by_cases g15 : fw Z n s t = 15
  · have hS : sBod Z n (fw Z n s t) H (.inr (s, t, [])) = sSet Z n 11 0 100 H (.inr (s, t, [])) := by
      unfold sBod
      rw [if_neg (by omega), if_neg (by omega), if_neg (by omega), if_neg (by omega), if_neg (by omega), if_neg (by omega), if_neg (by omega), if_neg (by omega), if_neg (by omega), if_neg (by omega), if_neg (by omega), if_pos g15]
    rw [hS]
    have hW : tkW Z n 15 (.inr (s, t, [])) = nx Z n (.inr (s, t, [])) := by
      unfold tkW
      have hk := hk1 (by omega)
      have hw : wno Z s (te Z n s) = 15 := by unfold fw at g15; rw [if_pos hk] at g15; exact g15
      exact if_pos (decide_eq_true ⟨hk, hw⟩)
    rw [hW]
    rfl
  · rw [sBod_bad (by omega)]
    have hW : tkW Z n 15 (.inr (s, t, [])) = .inl (1, (s : Int)) := by
      unfold tkW
      refine if_neg (fun h => g15 ?_)
      have h := of_decide_eq_true h
      unfold fw
      rw [if_pos h.1]
      exact h.2
    rw [hW]
    rfl
