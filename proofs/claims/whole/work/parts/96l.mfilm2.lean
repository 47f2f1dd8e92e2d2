/-! The reference: films whole. -/
theorem knS_bad {Z : Nat → Nat → Int} {n : Nat} {N : Nat → Nat → List Int} {sort c s : Nat} {t : Bool} {l : List Int} (h : kd Z n s t ≠ 1) : knS Z n N sort c (.inr (s, t, l)) = (.inl (1, (s : Int)), -1) := by
  have e : nmS Z n (.inr (s, t, l)) = .inl (1, (s : Int)) := by
    have e1 : nmH Z n (.inr (s, t, l)) = (.inl (1, (s : Int)), 0) := by
      unfold nmH
      exact if_neg (fun g => h g.1)
    show (match (nmH Z n (.inr (s, t, l))).1 with
      | .inl e => (.inl e : am_PS)
      | .inr _ => .inr (ns Z n s, nt Z n s, ltn Z s (te Z n s - s))) = _
    rw [e1]
  unfold knS
  rw [e]
def mFE (L : Nat) (q : am_Pq) (Z : Nat → Nat → Int) (n : Nat) (M : am_M) (f : Nat) : am_PS × (Nat → Int) → Prop
  | (.inl e, _) => mFa L q Z n M e
  | (.inr (s, t, _), r) => (mP L q Z n M s t ∧ ∀ k, k < 6 → am_I M 222 (6 * f + k) = am_i (r k)) ∨ (mFa L q Z n M (1, (s : Int)) ∧ isG Z n 59 (.inr (s, t, [])) = false)
def pFr (f b j : Nat) : Prop := rR b j ∨ (b = 222 ∧ 6 * f ≤ j ∧ j < 6 * f + 6)
theorem mNm_fr {M M' : am_M} {X : am_X} {N : Nat → Nat → List Int} {f : Nat} (H : mNm M X N) (g : fr (pFr f) M M') : mNm M' X N := mNm_mv H (fun b k h => g b k (fun h2 => by
  rcases h2 with h2 | h2
  · unfold rR at h2; omega
  · omega))
theorem m_filmRows {L : Nat} {q : am_Pq} {Z : Nat → Nat → Int} {n : Nat} {X : am_X} {N : Nat → Nat → List Int} {f : Nat} (hf : f < 8) (d : Nat) (v1 v3 : Value) (y2 : Int64) (x4 : Int32) : ∀ (m : Nat) {M : am_M} {st : am_PS}, mS L q Z n M st → (∀ s t l, st = .inr (s, t, l) → l = [] ∧ n - s ≤ m) → mNm M X N → ∀ {r : Nat → Int}, (isE st = false → ∀ k, k < 6 → am_I M 222 (6 * f + k) = am_i (r k) ∧ 0 ≤ r k ∧ r k ≤ 9) → ∀ (v7 v8 : Value), ∃ M' w6 w7 w8, am_ev 149 (d + 4 + 1) 83 [.ref 187, v1, .long y2, v3, .int x4, .int (am_i (f : Int)), .int (am_i 1), v7, v8] [] M = am_ev 149 (d + 4 + 1) 177 [.ref 187, v1, .long y2, v3, .int x4, .int (am_i (f : Int)), w6, w7, w8] [] M' ∧ fr (pFr f) M M' ∧ mFE L q Z n M' f (fK Z n N (nM X 0) (m + 1) st r) := by
  intro m
  induction m with
  | zero =>
    intro M st H hl HN r hr v7 v8
    obtain ⟨M1, x6, w6, w7, w8, h0, hw, f1, H1, e1⟩ := m_row H HN hf hr d v1 v3 v7 v8 y2 x4 rfl
    cases hb : (fkB Z n N (nM X 0) st r).1 with
    | inr x =>
      exfalso
      obtain ⟨s, t, l⟩ := x
      obtain ⟨-, hE, -⟩ := fkB_inr hb
      match st, hl, hE with
      | .inr (s0, t0, l0), hl, hE =>
        have h1 := (hl s0 t0 l0 rfl).2
        have h2 : av n (.inr (s0, t0, l0)) (fK Z n N (nM X 0) 1 (.inr (s0, t0, l0)) r).1 := fK_av 0
        have h3 : (fK Z n N (nM X 0) 1 (.inr (s0, t0, l0)) r).1 = .inr (s, t, l) := by
          rw [fK_s, hb]
          show (if kd Z n s t = 1 then fK Z n N (nM X 0) 0 (.inr (s, t, l)) (fkR Z n N (nM X 0) (.inr (s0, t0, l0)) r) else (.inr (s, t, l), fkR Z n N (nM X 0) (.inr (s0, t0, l0)) r)).1 = _
          split <;> rfl
        obtain ⟨s2, t2, l2, e2, h4, h5⟩ := h2 _ _ _ h3
        have e2 := Sum.inr.inj e2
        rw [Prod.mk.injEq, Prod.mk.injEq] at e2
        omega
    | inl e =>
      have hF : fK Z n N (nM X 0) (0 + 1) st r = (.inl e, fkR Z n N (nM X 0) st r) := by rw [fK_s, hb]
      rw [hb] at H1
      rw [hF]
      rcases hw with hw | ⟨hw, -⟩
      · subst hw
        exact ⟨M1, _, _, _, h0.trans (m_fEnd H1 (d + 4) v1 v3 w7 w8 y2 x4 _ _), f1, H1⟩
      · subst hw
        exact ⟨M1, _, _, _, h0, f1, H1⟩
  | succ m ih =>
    intro M st H hl HN r hr v7 v8
    obtain ⟨M1, x6, w6, w7, w8, h0, hw, f1, H1, e1⟩ := m_row H HN hf hr d v1 v3 v7 v8 y2 x4 rfl
    have hB := @fK_s Z n N (nM X 0) (m + 1) st r
    cases hb : (fkB Z n N (nM X 0) st r).1 with
    | inl e =>
      rw [hb] at H1 hB
      have hB : fK Z n N (nM X 0) (m + 1 + 1) st r = (.inl e, fkR Z n N (nM X 0) st r) := hB
      rw [hB]
      rcases hw with hw | ⟨hw, -⟩
      · subst hw
        exact ⟨M1, _, _, _, h0.trans (m_fEnd H1 (d + 4) v1 v3 w7 w8 y2 x4 _ _), f1, H1⟩
      · subst hw
        exact ⟨M1, _, _, _, h0, f1, H1⟩
    | inr x =>
      obtain ⟨s, t, l⟩ := x
      obtain ⟨hl1, hE, -⟩ := fkB_inr hb
      subst hl1
      rw [hb] at H1 hB
      have hB : fK Z n N (nM X 0) (m + 1 + 1) st r = if kd Z n s t = 1 then fK Z n N (nM X 0) (m + 1) (.inr (s, t, [])) (fkR Z n N (nM X 0) st r) else (.inr (s, t, []), fkR Z n N (nM X 0) st r) := hB
      obtain ⟨e2, e3⟩ := e1 s t [] hb
      have hw : w6 = 83 := by
        rcases hw with hw | ⟨-, hw⟩
        · exact hw
        · rw [hE] at hw; exact absurd hw (by decide)
      subst hw
      have H1 : mP L q Z n M1 s t := H1
      have HN1 := mNm_fr (f := f) HN f1
      obtain ⟨k1, k2, k3, k4⟩ := kd_kinds Z n s t
      by_cases g : kd Z n s t = 1
      · rw [if_pos g] at hB
        obtain ⟨g1, g2, g3⟩ := k1.mp g
        rw [if_pos g1, g2] at e2
        subst e2
        have hpos : n - s ≤ m := by
          match st, hl, hE, hb with
          | .inr (s0, t0, l0), hl, hE, hb =>
            have h1 := (hl s0 t0 l0 rfl).2
            have h3 : (fK Z n N (nM X 0) 1 (.inr (s0, t0, l0)) r).1 = .inr (s, t, []) := by
              rw [fK_s, hb]
              show (if kd Z n s t = 1 then fK Z n N (nM X 0) 0 (.inr (s, t, [])) (fkR Z n N (nM X 0) (.inr (s0, t0, l0)) r) else (.inr (s, t, []), fkR Z n N (nM X 0) (.inr (s0, t0, l0)) r)).1 = _
              split <;> rfl
            obtain ⟨s2, t2, l2, e2, h4, h5⟩ := fK_av 0 _ _ _ h3
            have e2 := Sum.inr.inj e2
            rw [Prod.mk.injEq, Prod.mk.injEq] at e2
            omega
        obtain ⟨M2, w6', w7', w8', h2, f2, H2⟩ := ih (M := M1) (st := .inr (s, t, [])) H1 (fun s' t' l' h => by
          have := Sum.inr.inj h
          rw [Prod.mk.injEq, Prod.mk.injEq] at this
          exact ⟨this.2.2.symm, by omega⟩) HN1 (r := fkR Z n N (nM X 0) st r) (fun _ => e3) w7 w8
        rw [hB]
        exact ⟨M2, _, _, _, h0.trans h2, fr_tr f1 f2, H2⟩
      · rw [if_neg g] at hB
        rw [hB]
        by_cases g1 : s < n ∧ ltr (Z 0 s) = 1
        · rw [if_pos g1.1, g1.2] at e2
          subst e2
          obtain ⟨M2, x6', w6', w7', w8', h2, hw', f2, H2, -⟩ := m_row (st := .inr (s, t, [])) H1 HN1 hf (r := fkR Z n N (nM X 0) st r) (fun _ => e3) d v1 v3 w7 w8 y2 x4 rfl
          have hw' : w6' = 83 := by
            rcases hw' with hw' | ⟨-, hw'⟩
            · exact hw'
            · exact absurd (show false = true from hw') (by decide)
          subst hw'
          have hb2 : (fkB Z n N (nM X 0) (.inr (s, t, [])) (fkR Z n N (nM X 0) st r)).1 = .inl (1, (s : Int)) := by
            unfold fkB
            rw [knS_bad g]
            rfl
          rw [hb2] at H2
          refine ⟨M2, _, _, _, (h0.trans h2).trans (m_fEnd H2 (d + 4) v1 v3 w7' w8' y2 x4 _ _), fr_tr f1 f2, Or.inr ⟨H2, ?_⟩⟩
          exact decide_eq_false (fun h => (k3.mp h.1).2.1 g1.2)
        · have hx : x6 = am_i 0 := by
            rw [e2]
            by_cases g2 : s < n
            · rw [if_pos g2]
              rcases ltr_01 (Z 0 s) with h | h
              · rw [h]
              · exact absurd ⟨g2, h⟩ g1
            · rw [if_neg g2]
          subst hx
          refine ⟨M1, .int (am_i 0), w7, w8, h0.trans ?_, f1, Or.inl ⟨H1, fun k hk => (e3 k hk).1⟩⟩
          rw [t149_83, am_ob_p (kk_187 (mP_S H1).1), (m_ok H1).1, am_br_eq (by omega) (by omega) (by omega) (by omega), if_pos rfl]
theorem m_zero {L : Nat} {q : am_Pq} {f : Nat} (hf : f < 8) (d : Nat) (v1 v3 v7 v8 : Value) (y2 : Int64) (x4 : Int32) : ∀ (m i : Nat), i + m = 6 → ∀ {M}, am_Sh L q M → ∃ M', am_ev 149 (d + 1) 53 [.ref 187, v1, .long y2, v3, .int x4, .int (am_i (f : Int)), .int (am_i (i : Int)), v7, v8] [] M = am_ev 149 (d + 1) 83 [.ref 187, v1, .long y2, v3, .int x4, .int (am_i (f : Int)), .int (am_i 1), v7, v8] [] M' ∧ am_Sh L q M' ∧ fr (fun b j => b = 222 ∧ 6 * f + i ≤ j ∧ j < 6 * f + 6) M M' ∧ ∀ k, i ≤ k → k < 6 → am_I M' 222 (6 * f + k) = am_i 0 := by
  intro m
  induction m with
  | zero =>
    intro i hi M S
    refine ⟨M, ?_, S, fr_rfl _ _, fun k h1 h2 => by omega⟩
    rw [t149_53, am_br_ge (by omega) (by omega) (by omega) (by omega), if_pos (by omega)]
  | succ m ih =>
    intro i hi M S
    obtain ⟨M', r, S', f', e'⟩ := ih (i + 1) (by omega) (M := am_sI M 222 (6 * f + i) (am_i 0)) (S.sI _ _ _)
    refine ⟨M', ?_, S', fr_tr (fr_sI (by omega)) (fr_mono f' (fun b j h => by omega)), fun k h1 h2 => ?_⟩
    · rw [t149_53, am_br_ge (by omega) (by omega) (by omega) (by omega), if_neg (by omega), am_ob_p (kk_187 S), rr_187_43 S, am_gr_p, am_i_mul, am_i_add, show (6 : Int) * (f : Int) + (i : Int) = ((6 * f + i : Nat) : Int) by omega, am_iw_p (kk_222 S) (by omega) (by omega) (by omega) (by omega), am_i_ix (by omega) (by omega), Int.toNat_natCast, am_lt, am_i_add]
      exact r
    · by_cases g : k = i
      · subst g
        rw [(f' _ _ (by omega)).1, am_I_same]
      · exact e' k (by omega) h2
def mAg (L : Nat) (q : am_Pq) (Z : Nat → Nat → Int) (n : Nat) (M : am_M) : am_SR → Prop
  | .inl e => mFa L q Z n M e
  | .inr (s, t, H) => (mP L q Z n M s t ∧ mHt M H) ∨ (mFa L q Z n M (1, (s : Int)) ∧ isG Z n 59 (.inr (s, t, [])) = false)
theorem mAf_g {L : Nat} {q : am_Pq} {Z : Nat → Nat → Int} {n : Nat} {M : am_M} {x : am_SR} (H : mAf L q Z n M x) : mAg L q Z n M x := by
  match x, H with
  | .inl e, H => exact H
  | .inr (s, t, H'), H => exact Or.inl H
theorem m_film {L : Nat} {q : am_Pq} {Z : Nat → Nat → Int} {n : Nat} {M : am_M} {s0 : Nat} {t0 : Bool} {H : am_HS} (HP : mP L q Z n M (ns Z n s0) (nt Z n s0)) (HH : mHt M H) (d : Nat) : ∃ M', am_cl 149 (d + 5) [.ref 187, .int (am_i (s0 : Int))] M = some (none, M') ∧ mAg L q Z n M' (sFilm Z n H (.inr (s0, t0, []))) ∧ fr pMt M M' := by
  obtain ⟨M1, r1, H1, f1⟩ := m_isFull HP HH.1 (s := 1) (by omega) (s0 : Int) (d + 3)
  have h0 := t149 (d + 4) M 187 (am_i (s0 : Int))
  have r1 : am_cl 143 (d + 4) [.ref 187, .int (am_i 1), .int (am_i 8), .int (am_i (s0 : Int))] M = some (some (.int (am_i (if most3 1 ≤ H.1 0 1 0 then 1 else 0))), M1) := r1
  rw [am_ob_p (kk_187 (mP_S HP).1), r1, am_bI_p] at h0
  obtain ⟨R, hR⟩ : ∃ R, R = nwS Z n H.2.1 (nM H.1) (st1S Z n (most3 1 ≤ H.1 0 1 0) (.inr (s0, t0, []))) := ⟨_, rfl⟩
  unfold sFilm
  rw [← hR]
  unfold st1S at hR
  by_cases g : most3 1 ≤ H.1 0 1 0
  · rw [if_pos g] at h0 H1 hR
    rw [am_br_eq (by omega) (by omega) (by omega) (by omega), if_neg (by omega)] at h0
    have hR : R = .inl (5, (s0 : Int)) := hR
    subst hR
    exact ⟨M1, h0, H1, fr_mono f1 (fun b k h => rR_pMt h)⟩
  · rw [if_neg g] at h0 H1 hR
    have HH1 := mHt_R HH f1
    obtain ⟨M3, v, r3, H3, e3, f3⟩ := m_newName H1 HH1.1 d
    have H3 : mS L q Z n M3 R := by rw [hR]; exact H3
    have e3 : ∀ s t nm, R = .inr (s, t, nm) → v = c27 nm ∧ lok nm ∧ 1 ≤ nm.length ∧ nm.length ≤ 6 := by rw [hR]; exact e3
    have H3d : mS L q Z n M3 (dl R) := by
      match R, H3 with
      | .inl e, H3 => exact H3
      | .inr (s, t, nm), H3 => exact H3
    obtain ⟨M4, r4, H4, f4⟩ := m_asksH H3d 2 (by omega) (r := 192) rfl (c := 2) rfl (d + 1)
    obtain ⟨M5, a, r5, H5, ea, ba1, ba2, f5⟩ := m_num H4 (lo := 1) (hi := 9) (by omega) (by omega) (d + 3)
    have H5 : mS L q Z n M5 (fi1 Z n (dl R)).1 := H5
    have ea : isE (fi1 Z n (dl R)).1 = false → a = (fi1 Z n (dl R)).2 := ea
    obtain ⟨M6, r6, H6, f6⟩ := m_asksH H5 3 (by omega) (r := 193) rfl (c := 3) rfl (d + 1)
    have H6 : mS L q Z n M6 (fi2 Z n (dl R)) := H6
    have S3 := (mS_S H3).1
    have S4 := (mS_S H4).1
    have S5 := (mS_S H5).1
    have S6 := (mS_S H6).1
    have f16 := fr_tr f1 (fr_tr f3 (fr_tr f4 (fr_tr f5 f6)))
    have HH6 := mHt_R HH f16
    have c1 := (xB_c HH.1.2.2 (s := 1) (by omega)).2.2
    have hlt8 : ¬ (8 : Int) ≤ H.1 0 1 0 := g
    have hm8 : nM H.1 1 < 8 := by omega
    have em : am_I M6 219 1 = am_i ((nM H.1 1 : Nat) : Int) := by rw [c1.1]; exact HH6.1.1 1 (by omega)
    rw [am_br_eq (by omega) (by omega) (by omega) (by omega), if_pos rfl, am_ob_p (kk_187 (mS_S H1).1), r3, am_bL_p, am_ob_p (kk_187 S3), rr_187_12 S3, am_gr_p, am_ob_p (kk_187 S3), r4, am_bV_p, am_ob_p (kk_187 S4), r5, am_bI_p, am_ob_p (kk_187 S5), rr_187_13 S5, am_gr_p, am_ob_p (kk_187 S5), r6, am_bV_p, am_ob_p (kk_187 S6), rr_187_40 S6, am_gr_p, am_ix_p (kk_219 S6) (by omega) (by omega) (by omega), am_i_ix (by omega) (by omega), show Int.toNat 1 = 1 from rfl, em] at h0
    obtain ⟨M7, r7, S7, f7, e7⟩ := m_zero hm8 (d + 4) (.int (am_i (s0 : Int))) .null .null .null (am_l v) (am_i a) 6 0 (by omega) S6
    have r7 : am_ev 149 (d + 4 + 1) 53 [.ref 187, .int (am_i (s0 : Int)), .long (am_l v), .null, .int (am_i a), .int (am_i ((nM H.1 1 : Nat) : Int)), .int (am_i 0), .null, .null] [] M6 = _ := r7
    rw [r7] at h0
    have H7 : mS L q Z n M7 (fi2 Z n (dl R)) := mS_mv H6 S7 (fr_mono f7 (fun b k h => by unfold nR; omega))
    have hnil : ∀ s' t' l', fi2 Z n (dl R) = .inr (s', t', l') → l' = [] ∧ n - s' ≤ n := fun s' t' l' h => by
      obtain ⟨a3, a4, e2, -⟩ := tkW_e h
      obtain ⟨a5, a6, e3⟩ := tkN_e e2
      obtain ⟨a7, a8, e4, -⟩ := tkW_e e3
      match R, e4 with
      | .inr (s, t, nm), e4 =>
        have := Sum.inr.inj e4
        rw [Prod.mk.injEq, Prod.mk.injEq] at this
        exact ⟨this.2.2.symm, by omega⟩
    obtain ⟨M8, w6, w7, w8, r8, f8, H8⟩ := m_filmRows hm8 d (.int (am_i (s0 : Int))) .null (am_l v) (am_i a) n H7 hnil (mNm_mv HH6.1 (fun b k h => f7 b k (by omega))) (r := fun _ => 0) (fun _ k hk => ⟨e7 k (by omega) hk, by omega, by omega⟩) .null .null
    have H8 : mFE L q Z n M8 (nM H.1 1) (fi3 Z n H (dl R)) := H8
    rw [r8] at h0
    have f18 : fr (pFr (nM H.1 1)) M M8 := fr_tr (fr_mono f16 (fun b k h => Or.inl h)) (fr_tr (fr_mono f7 (fun b k h => Or.inr ⟨h.1, by omega, by omega⟩)) f8)
    have pfr : ∀ b k, pFr (nM H.1 1) b k → pMt b k := fun b k h => by
      rcases h with h | h
      · exact rR_pMt h
      · exact pMt_222 ⟨h.1, by omega⟩
    -- the end, with a fault
    have bad : ∀ e, mFa L q Z n M8 e → am_cl 149 (d + 4 + 1) [.ref 187, .int (am_i (s0 : Int))] M = some (none, M8) := fun e He => by
      rw [h0, t149_177, am_ob_p (kk_187 He.1), (m_bad He).2]
    cases hp : (fi3 Z n H (dl R)).1 with
    | inl e =>
      have hp2 : fi3 Z n H (dl R) = (.inl e, (fi3 Z n H (dl R)).2) := by rw [← hp]
      rw [hp2] at H8
      have H8 : mFa L q Z n M8 e := H8
      refine ⟨M8, bad e H8, ?_, fr_mono f18 pfr⟩
      match R, hp with
      | .inl e', hp =>
        have hf : (fi3 Z n H (dl (.inl e'))).1 = .inl e' := by
          cases hq : (fi3 Z n H (dl (.inl e'))).1 with
          | inl e2 =>
            have : fi3 Z n H (dl (.inl e')) = (.inl e', _) := rfl
            rw [this] at hq
            exact hq.symm
          | inr y =>
            have : fi3 Z n H (dl (.inl e')) = (.inl e', _) := rfl
            rw [this] at hq
            cases hq
        rw [hf] at hp
        rw [Sum.inl.inj hp]
        exact H8
      | .inr (s, t, nm), hp =>
        have hp : (fi3 Z n H (.inr (s, t, []))).1 = .inl e := hp
        simp only [hp]
        exact H8
    | inr x =>
      obtain ⟨s', t', l'⟩ := x
      have hp2 : fi3 Z n H (dl R) = (.inr (s', t', l'), (fi3 Z n H (dl R)).2) := by rw [← hp]
      rw [hp2] at H8
      match R, hp, e3, H8, ea with
      | .inl e', hp, e3, H8, ea =>
        have : fi3 Z n H (dl (.inl e')) = (.inl e', _) := rfl
        rw [this] at hp
        cases hp
      | .inr (s, t, nm), hp, e3, H8, ea =>
        have hp : (fi3 Z n H (.inr (s, t, []))).1 = .inr (s', t', l') := hp
        obtain ⟨e4, e5, e6, e7'⟩ := e3 s t nm rfl
        subst e4
        simp only [hp]
        rcases H8 with ⟨H8, hrow⟩ | ⟨H8, hg⟩
        · have S8 := (mP_S H8).1
          have hrow : ∀ k, k < 6 → am_I M8 222 (6 * nM H.1 1 + k) = am_i ((fi3 Z n H (.inr (s, t, []))).2 k) := hrow
          have va : a = (fi1 Z n (.inr (s, t, []))).2 := ea (by
            obtain ⟨a1, a2, a3, e1, -⟩ := (av_tr av_tkW (fK_av n) : av n (fi1 Z n (.inr (s, t, []))).1 (fi3 Z n H (.inr (s, t, []))).1) _ _ _ hp
            show isE (fi1 Z n (.inr (s, t, []))).1 = false
            rw [e1]; rfl)
          obtain ⟨M9, hM9⟩ : ∃ M9, M9 = am_sI M8 221 (nM H.1 1) (am_i a) := ⟨_, rfl⟩
          have S9 : am_Sh L q M9 := by rw [hM9]; exact S8.sI _ _ _
          have f9 : fr (fun b k => b = 221 ∧ k = nM H.1 1) M8 M9 := by rw [hM9]; exact fr_sI ⟨rfl, rfl⟩
          have HN8 := mNm_fr HH.1 f18
          obtain ⟨M10, r10, S10, H10, f10⟩ := m_adds S9 (mNm_mv HN8 (fun b k h => f9 b k (by omega))) (s := 1) (by omega) (by show H.1 0 1 0 < 8; omega) e5 e6 e7' (d + 4)
          have r10 : am_cl 147 (d + 4) [.ref 187, .int (am_i 1), .long (am_l (c27 nm))] M9 = some (none, M10) := r10
          rw [t149_177, am_ob_p (kk_187 S8), (m_ok H8).2, am_ob_p (kk_187 S8), rr_187_42 S8, am_gr_p, am_iw_p (kk_221 S8) (by omega) (by omega) (by omega) (by omega), am_i_ix (by omega) (by omega), Int.toNat_natCast, am_lt, ← hM9, am_ob_p (kk_187 S9), r10, am_bV_p] at h0
          rw [← va]
          refine ⟨M10, h0, Or.inl ⟨mP_mv (mP_mv H8 S9 (fr_mono f9 (fun b k h => by unfold nR; omega))) S10 (fr_mono f10 (fun b k h => by unfold nR; omega)), ?_, ?_, ?_, ?_, HH.2.2.2.2⟩, fr_tr (fr_mono f18 pfr) (fr_tr (fr_mono f9 (fun b k h => pMt_221 (by omega))) (fr_mono f10 (fun b k h => h.elim (fun h => pMt_219 h) (fun h => pMt_220 h))))⟩
          · refine mNm_0 H10 (fun k => ?_)
            by_cases g : k = 1
            · subst g
              rw [uA_eq]
              exact (show uF H.1 a (fi3 Z n H (.inr (s, t, []))).2 0 1 0 = H.1 0 1 0 + 1 from if_pos ⟨rfl, rfl, rfl⟩)
            · rw [uA_ne (by omega)]
              exact uF_o ⟨by omega, by omega, by omega⟩
          · intro a' b' c' hv
            show _ = am_i (uF H.1 a (fi3 Z n H (.inr (s, t, []))).2 a' b' c')
            have hnm : ∀ a0, nM (uF H.1 a (fi3 Z n H (.inr (s, t, []))).2) a0 = if a0 = 1 then nM H.1 1 + 1 else nM H.1 a0 := fun a0 => by
              unfold nM
              by_cases g : a0 = 1
              · subst g
                rw [if_pos rfl, show uF H.1 a (fi3 Z n H (.inr (s, t, []))).2 0 1 0 = H.1 0 1 0 + 1 from if_pos ⟨rfl, rfl, rfl⟩]
                omega
              · rw [if_neg g, uF_o ⟨by omega, by omega, by omega⟩]
            have hv' : vd (uF H.1 a (fi3 Z n H (.inr (s, t, []))).2) a' b' c' := hv
            have hm := mad_c hv'
            unfold vd at hv'
            rw [hnm, hnm, if_pos rfl, if_neg (show ¬ (2 : Nat) = 1 by omega)] at hv'
            rw [(f10 _ _ (by omega)).1]
            by_cases g2 : a' = 2 ∧ b' = nM H.1 1
            · obtain ⟨rfl, rfl⟩ := g2
              have hc : c' = 0 := by omega
              subst hc
              rw [hM9, show (mad 2 (nM H.1 1) 0) = (221, nM H.1 1) from rfl, am_I_same, show uF H.1 a (fi3 Z n H (.inr (s, t, []))).2 2 (nM H.1 1) 0 = a from by
                unfold uF
                rw [if_neg (by omega), if_pos ⟨rfl, rfl, rfl⟩]]
            · by_cases g3 : a' = 3 ∧ b' = nM H.1 1
              · obtain ⟨rfl, rfl⟩ := g3
                rw [(f9 _ _ (by omega)).1, show (mad 3 (nM H.1 1) c') = (222, 6 * nM H.1 1 + c') from rfl, show uF H.1 a (fi3 Z n H (.inr (s, t, []))).2 3 (nM H.1 1) c' = (fi3 Z n H (.inr (s, t, []))).2 c' from by
                  unfold uF
                  rw [if_neg (by omega), if_neg (by omega), if_pos ⟨rfl, rfl⟩]]
                exact hrow c' (by omega)
              · rw [uF_o ⟨by omega, by omega, by omega⟩, (f9 _ _ (by omega)).1, (f18 _ _ (fun h => by
                  rcases h with h | h
                  · unfold rR at h; omega
                  · omega)).1]
                exact HH.2.1 a' b' c' (by unfold vd; omega)
          · exact mGx_mv HH.2.2.1 (Nat.le_refl _) (fun b k g => by
              rw [(f10 _ _ (by omega)).1, (f9 _ _ (by omega)).1, (f18 _ _ (fun h => by
                  rcases h with h | h
                  · unfold rR at h; omega
                  · omega)).1])
          · rw [(f10 _ _ (by omega)).1, (f9 _ _ (by omega)).1, (f18 _ _ (fun h => by
                rcases h with h | h
                · unfold rR at h; omega
                · omega)).1]
            exact HH.2.2.2.1
        · exact ⟨M8, bad _ H8, Or.inr ⟨H8, hg⟩, fr_mono f18 pfr⟩
