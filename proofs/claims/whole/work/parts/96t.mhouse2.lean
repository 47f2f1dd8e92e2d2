/-! The reference: house whole. -/
theorem pMu_187 {k : Nat} (h : pMu 187 k) : (2 ≤ k ∧ k ≤ 6) ∨ k = 39 ∨ k = 46 ∨ (51 ≤ k ∧ k ≤ 53) ∨ (56 ≤ k ∧ k ≤ 59) ∨ k = 92 ∨ (94 ≤ k ∧ k ≤ 96) ∨ (98 ≤ k ∧ k ≤ 100) := by
  obtain ⟨h, -⟩ := h
  unfold sM at h
  rcases h with h | h | h | h | h | h | h | h | h | h | h | h | h | h <;> omega
theorem pMu_189 {k : Nat} (h : pMu 189 k) : False := by
  obtain ⟨h, -⟩ := h
  unfold sM at h
  rcases h with h | h | h | h | h | h | h | h | h | h | h | h | h | h <;> omega
/-- what the reference writes, and where a house came of it -/
def pMx (b k : Nat) : Prop := pMv b k ∨ (b = 187 ∧ (k = 7 ∨ k = 8)) ∨ (b = 189 ∧ k = 1)
def pMy (b k : Nat) : Prop := pMx b k ∨ (219 ≤ b ∧ b ≤ 229) ∨ (b = 187 ∧ (k = 65 ∨ k = 68))
def mOut (M M' : am_M) (z1 : Int) : Sum (Int × Int) (Nat × am_HS) → Int → Prop
  | .inl e, x => x = -1 ∧ (1 ≤ e.1 ∧ e.1 ≤ 5) ∧ am_I M' 187 7 = am_i e.1 ∧ am_I M' 187 8 = am_i e.2 ∧ am_I M' 189 1 = am_i (z1 + 1) ∧ fr pMx M M'
  | .inr (c, H), x => x = (c : Int) ∧ am_I M' 187 7 = am_i 0 ∧ am_I M' 187 8 = am_i (-1) ∧ am_I M' 189 1 = am_i z1 ∧ mH M' H.1 ∧ mN M' H.2.1 H.1 ∧ mG M' H.2.2.1 ∧ mA M' (aP azr (H.1 7 0 0)) ∧ mK M' [] ∧ am_I M' 187 68 = am_i 0 ∧ am_I M' 187 65 = am_i 0 ∧ fr pMy M M'
theorem sLoop_I {Z : Nat → Nat → Int} {n : Nat} (hn : n ≤ 1600) : ∀ m c H s t, hI H s → ∀ c' H', sLoop Z n m c H s t = .inr (c', H') → xI H'.1 H'.2.1 ∧ gB H'.2.2.1 := by
  intro m
  induction m with
  | zero =>
    intro c H s t hi c' H' h
    unfold sLoop at h
    by_cases g : kd Z n s t = 0
    · rw [if_pos g] at h
      have h := Sum.inr.inj h
      rw [Prod.mk.injEq] at h
      rw [← h.2]
      exact ⟨hi.1, hi.2.1⟩
    · rw [if_neg g] at h
      cases h
  | succ m ih =>
    intro c H s t hi c' H' h
    unfold sLoop at h
    by_cases g : kd Z n s t = 0
    · rw [if_pos g] at h
      have h := Sum.inr.inj h
      rw [Prod.mk.injEq] at h
      rw [← h.2]
      exact ⟨hi.1, hi.2.1⟩
    · rw [if_neg g] at h
      have hO := hO_stm (t := t) hi hn (Z := Z)
      cases hs : sStm Z n H s t with
      | inl e => rw [hs] at h; cases h
      | inr x =>
        obtain ⟨s', t', H1⟩ := x
        rw [hs] at h hO
        exact ih (c + 1) H1 s' t' hO.1 c' H' h
theorem m_house {L : Nat} {q : am_Pq} {Z : Nat → Nat → Int} {n : Nat} {M : am_M} (S : am_Sh L q M) (hT : ∀ k, k < 1600 → am_I M 188 k = am_i (Z 0 k)) (hz : ∀ k, 0 ≤ Z 0 k ∧ Z 0 k ≤ 255) (hw : mWw M) (hn : n ≤ 1600) (e1 : am_I M 187 1 = am_i (n : Int)) {z1 : Int} (e189 : am_I M 189 1 = am_i z1) (d : Nat) : ∃ M' x, am_cl 155 (d + 12 + 1) [.ref 187] M = some (some (.int (am_i x)), M') ∧ am_Sh L q M' ∧ am_I M' 187 1 = am_i 0 ∧ mOut M M' z1 (sLoop Z n 80 0 H0h (sk Z n 0) false) x := by
  obtain ⟨M1, v, r1, HP1, HH1, e52, e11, f1⟩ := m_hStart S hT hz hw hn e1 (d + 12)
  obtain ⟨M2, r2, f2, H2⟩ := m_loop d v 80 0 rfl HP1 HH1 (hI_0 _) e52
  have r12 := r1.trans r2
  have fA : fr pMv M M2 := fr_tr f1 (fr_mono f2 (fun b k h => Or.inl h))
  have k1 : am_I M2 187 1 = am_i 0 := ((f2 187 1 (fun h => by have := pMu_187 h; omega)).1).trans e11
  have k189 : am_I M2 189 1 = am_i z1 := by
    rw [(fA 189 1 (fun h => by
      rcases h with h | h
      · exact pMu_189 h
      · omega)).1]
    exact e189
  have h146 := t155_146 (d + 12) M2 187 v
  cases hs : sLoop Z n 80 0 H0h (sk Z n 0) false with
  | inl e =>
    rw [hs] at H2
    obtain ⟨S2, he, e5, e6, -⟩ := H2
    have S3 := S2.sI 187 7 (am_i e.1)
    have S4 := S3.sI 187 8 (am_i e.2)
    have k6 : am_I (am_sI M2 187 7 (am_i e.1)) 187 6 = am_i e.2 := by rw [am_I_ne2 (by omega)]; exact e6
    have k5 : am_I (am_sI (am_sI M2 187 7 (am_i e.1)) 187 8 (am_i e.2)) 187 5 = am_i e.1 := by rw [am_I_ne2 (by omega), am_I_ne2 (by omega)]; exact e5
    have kz : am_I (am_sI (am_sI M2 187 7 (am_i e.1)) 187 8 (am_i e.2)) 189 1 = am_i z1 := by rw [am_I_ne1 (by omega), am_I_ne1 (by omega)]; exact k189
    rw [am_ob_p (kk_187 S2), am_ob_p (kk_187 S2), e5, am_lt, am_ob_p (kk_187 S3), am_ob_p (kk_187 S3), k6, am_lt, am_ob_p (kk_187 S4), k5, am_br_eq (by omega) (by omega) (by omega) (by omega), if_neg (by omega), am_ob_p (kk_187 S4), rr_187_9 S4, am_gr_p, am_ix_p (kk_189 S4) (by omega) (by omega) (by omega), am_iw_p (kk_189 S4) (by omega) (by omega) (by omega) (by omega), am_i_ix (by omega) (by omega), show Int.toNat 1 = 1 from rfl, kz, am_i_add, am_lt] at h146
    refine ⟨_, _, r12.trans h146, S4.sI _ _ _, ?_, rfl, he, ?_, ?_, am_I_same _ _ _ _, fr_tr (fr_mono fA (fun b k h => Or.inl h)) (fr_tr (fr_sI (Or.inr (Or.inl ⟨rfl, Or.inl rfl⟩))) (fr_tr (fr_sI (Or.inr (Or.inl ⟨rfl, Or.inr rfl⟩))) (fr_sI (Or.inr (Or.inr ⟨rfl, rfl⟩)))))⟩
    · rw [am_I_ne1 (by omega), am_I_ne2 (by omega), am_I_ne2 (by omega)]; exact k1
    · rw [am_I_ne1 (by omega), am_I_ne2 (by omega), am_I_same]
    · rw [am_I_ne1 (by omega), am_I_same]
  | inr y =>
    obtain ⟨c, H⟩ := y
    have hxI := (sLoop_I hn 80 0 H0h _ _ (hI_0 _) c H hs).1
    rw [hs] at H2
    obtain ⟨⟨s, t, HP⟩, HH, e52⟩ := H2
    have S2 := (mP_S HP).1
    have e5 := (mP_S HP).2.1
    obtain ⟨a, -, -, hE⟩ := HP
    have e6 := hE.2.1
    have S3 := S2.sI 187 7 (am_i 0)
    have S4 := S3.sI 187 8 (am_i (-1))
    have k6 : am_I (am_sI M2 187 7 (am_i 0)) 187 6 = am_i (-1) := by rw [am_I_ne2 (by omega)]; exact e6
    have k5 : am_I (am_sI (am_sI M2 187 7 (am_i 0)) 187 8 (am_i (-1))) 187 5 = am_i 0 := by rw [am_I_ne2 (by omega), am_I_ne2 (by omega)]; exact e5
    have f4 : fr (fun b k => b = 187 ∧ (k = 7 ∨ k = 8)) M2 (am_sI (am_sI M2 187 7 (am_i 0)) 187 8 (am_i (-1))) := fr_tr (fr_sI ⟨rfl, Or.inl rfl⟩) (fr_sI ⟨rfl, Or.inr rfl⟩)
    obtain ⟨h1, h2, h3, h4, h5⟩ := HH
    obtain ⟨M5, r5, S5, mh, mn, mg, ma, mk, m68, m65, f5⟩ := m_stands S4 (H := H) ⟨mNm_mv h1 (fun b k g => f4 b k (by omega)), mHr_mv h2 (fun b k g => (f4 b k (by omega)).1), mGx_mv h3 (Nat.le_refl _) (fun b k g => (f4 b k (by omega)).1), ((f4 _ _ (by omega)).1).trans h4, h5⟩ hxI (d + 10)
    have r5 : am_cl 156 (d + 12) [.ref 187] (am_sI (am_sI M2 187 7 (am_i 0)) 187 8 (am_i (-1))) = some (none, M5) := r5
    rw [am_ob_p (kk_187 S2), am_ob_p (kk_187 S2), e5, am_lt, am_ob_p (kk_187 S3), am_ob_p (kk_187 S3), k6, am_lt, am_ob_p (kk_187 S4), k5, am_br_eq (by omega) (by omega) (by omega) (by omega), if_pos rfl, am_ob_p (kk_187 S4), r5, am_bV_p, am_ob_p (kk_187 S5), (f5 _ _ (by omega)).1, (f4 _ _ (by omega)).1, e52] at h146
    refine ⟨M5, _, r12.trans h146, S5, ?_, rfl, ?_, ?_, ?_, mh, mn, mg, ma, mk, m68, m65, fr_tr (fr_mono fA (fun b k h => Or.inl (Or.inl h))) (fr_tr (fr_mono f4 (fun b k h => Or.inl (Or.inr (Or.inl h)))) (fr_mono f5 (fun b k h => Or.inr h)))⟩
    · rw [(f5 _ _ (by omega)).1, (f4 _ _ (by omega)).1]; exact k1
    · rw [(f5 _ _ (by omega)).1, am_I_ne2 (by omega), am_I_same]
    · rw [(f5 _ _ (by omega)).1, am_I_same]
    · rw [(f5 _ _ (by omega)).1, (f4 _ _ (by omega)).1]; exact k189
