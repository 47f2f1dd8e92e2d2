/-! The reference: a house is begun. -/
def pMv (b k : Nat) : Prop := pMu b k ∨ (b = 187 ∧ k = 1)
theorem m_hStart {L : Nat} {q : am_Pq} {Z : Nat → Nat → Int} {n : Nat} {M : am_M} (S : am_Sh L q M) (hT : ∀ k, k < 1600 → am_I M 188 k = am_i (Z 0 k)) (hz : ∀ k, 0 ≤ Z 0 k ∧ Z 0 k ≤ 255) (hw : mWw M) (hn : n ≤ 1600) (e1 : am_I M 187 1 = am_i (n : Int)) (d : Nat) : ∃ M' v, am_cl 155 (d + 1) [.ref 187] M = am_ev 155 (d + 1) 124 [.ref 187, v] [] M' ∧ mP L q Z n M' (sk Z n 0) false ∧ mHt M' H0h ∧ am_I M' 187 52 = am_i 0 ∧ am_I M' 187 1 = am_i 0 ∧ fr pMv M M' := by
  have S1 := S.sI 187 3 (am_i (n : Int))
  have S2 := S1.sI 187 1 (am_i 0)
  have S3 := S2.sI 187 2 (am_i 0)
  have S4 := S3.sI 187 4 (am_i (-1))
  have S5 := S4.sI 187 5 (am_i 0)
  have S6 := S5.sI 187 6 (am_i (-1))
  have S7 := S6.sI 187 52 (am_i 0)
  have S8 := S7.sI 187 51 (am_i 0)
  have S9 := S8.sI 187 46 (am_i 0)
  obtain ⟨M9, hM9⟩ : ∃ M9, M9 = am_sI (am_sI (am_sI (am_sI (am_sI (am_sI (am_sI (am_sI (am_sI M 187 3 (am_i (n : Int))) 187 1 (am_i 0)) 187 2 (am_i 0)) 187 4 (am_i (-1))) 187 5 (am_i 0)) 187 6 (am_i (-1))) 187 52 (am_i 0)) 187 51 (am_i 0)) 187 46 (am_i 0) := ⟨_, rfl⟩
  rw [← hM9] at S9
  have f9 : fr (fun b k => b = 187 ∧ ((1 ≤ k ∧ k ≤ 6) ∨ k = 46 ∨ k = 51 ∨ k = 52)) M M9 := by
    rw [hM9]
    exact fr_tr (fr_sI (by omega)) (fr_tr (fr_sI (by omega)) (fr_tr (fr_sI (by omega)) (fr_tr (fr_sI (by omega)) (fr_tr (fr_sI (by omega)) (fr_tr (fr_sI (by omega)) (fr_tr (fr_sI (by omega)) (fr_tr (fr_sI (by omega)) (fr_sI (by omega)))))))))
  have g3 : am_I M9 187 3 = am_i (n : Int) := by rw [hM9, am_I_ne2 (by omega), am_I_ne2 (by omega), am_I_ne2 (by omega), am_I_ne2 (by omega), am_I_ne2 (by omega), am_I_ne2 (by omega), am_I_ne2 (by omega), am_I_ne2 (by omega), am_I_same]
  have g1 : am_I M9 187 1 = am_i 0 := by rw [hM9, am_I_ne2 (by omega), am_I_ne2 (by omega), am_I_ne2 (by omega), am_I_ne2 (by omega), am_I_ne2 (by omega), am_I_ne2 (by omega), am_I_ne2 (by omega), am_I_same]
  have g2 : am_I M9 187 2 = am_i 0 := by rw [hM9, am_I_ne2 (by omega), am_I_ne2 (by omega), am_I_ne2 (by omega), am_I_ne2 (by omega), am_I_ne2 (by omega), am_I_ne2 (by omega), am_I_same]
  have g4 : am_I M9 187 4 = am_i (-1) := by rw [hM9, am_I_ne2 (by omega), am_I_ne2 (by omega), am_I_ne2 (by omega), am_I_ne2 (by omega), am_I_ne2 (by omega), am_I_same]
  have g5 : am_I M9 187 5 = am_i 0 := by rw [hM9, am_I_ne2 (by omega), am_I_ne2 (by omega), am_I_ne2 (by omega), am_I_ne2 (by omega), am_I_same]
  have g6 : am_I M9 187 6 = am_i (-1) := by rw [hM9, am_I_ne2 (by omega), am_I_ne2 (by omega), am_I_ne2 (by omega), am_I_same]
  have g52 : am_I M9 187 52 = am_i 0 := by rw [hM9, am_I_ne2 (by omega), am_I_ne2 (by omega), am_I_same]
  have g51 : am_I M9 187 51 = am_i 0 := by rw [hM9, am_I_ne2 (by omega), am_I_same]
  have g46 : am_I M9 187 46 = am_i 0 := by rw [hM9, am_I_same]
  obtain ⟨M10, r10, S10, f10, e10⟩ := m_hst50 d .null 3 0 rfl S9
  obtain ⟨M11, v, r11, S11, f11, e11, i0, i1, i2, i3⟩ := m_hst77 d 30 0 rfl S10
  have fB : fr (fun b k => ((b = 219 ∨ b = 226) ∧ k < 3) ∨ (b = 224 ∧ k < 30) ∨ (b = 225 ∧ k < 4)) M9 M11 := fr_tr (fr_mono f10 (fun b k h => by omega)) (fr_mono f11 (fun b k h => by omega))
  have fA : fr pMv M M11 := fr_tr (fr_mono f9 (fun b k h => by
    by_cases g : k = 1
    · exact Or.inr ⟨h.1, g⟩
    · exact Or.inl ⟨sM_187 (by omega), by omega⟩)) (fr_mono fB (fun b k h => Or.inl (by
      rcases h with ⟨h | h, h2⟩ | h | h
      · exact pMt_u (pMt_219 ⟨h, h2⟩)
      · exact pMt_u (pMt_226 ⟨h, h2⟩)
      · exact pMt_u (pMt_224 h)
      · exact pMt_u (pMt_225 h))))
  have k187 : ∀ k, am_I M11 187 k = am_I M9 187 k := fun k => (fB _ _ (by omega)).1
  refine ⟨M11, v, ?_, ⟨0, ⟨S11, fun k hk => by rw [(fB _ _ (by omega)).1, (f9 _ _ (by omega)).1]; exact hT k hk, by rw [k187]; exact g2, by rw [k187]; exact g3, by rw [k187]; exact g5, Nat.zero_le _, hn⟩, rfl, ⟨⟨-1, by rw [k187]; exact g4, by omega, by omega, ⟨fun h => (by cases h), fun h => by omega⟩⟩, by rw [k187]; exact g6, mWw_mv hw (fun b k h => by rw [(fB _ _ (by omega)).1, (f9 _ _ (by omega)).1]), hz⟩⟩, ⟨⟨fun k hk => ?_, fun s hs w hw => ?_, xI_x (hI_0 0).1⟩, fun a b c hv => ?_, fun j hj => ?_, by rw [k187]; exact g51, by decide⟩, by rw [k187]; exact g52, by rw [k187]; exact g1, fA⟩
  · have h0 := t155 d M 187
    rw [am_ob_p (kk_187 S), am_ob_p (kk_187 S), e1, am_lt, am_ob_p (kk_187 S1), am_lt, am_ob_p (kk_187 S2), am_lt, am_ob_p (kk_187 S3), am_lt, am_ob_p (kk_187 S4), am_lt, am_ob_p (kk_187 S5), am_lt, am_ob_p (kk_187 S6), am_lt, am_ob_p (kk_187 S7), am_lt, am_ob_p (kk_187 S8), am_lt, ← hM9] at h0
    exact h0.trans (r10.trans r11)
  · rw [(f11 _ _ (by omega)).1]
    exact (e10 k (by omega) hk).1
  · have hw : w < 0 := hw
    omega
  · have hF : nM X0h 1 = 0 := rfl
    have hP : nM X0h 2 = 0 := rfl
    have hv' : vd X0h a b c := hv
    have hm := mad_c hv'
    unfold vd at hv'
    rw [hF, hP] at hv'
    by_cases g6' : a = 6
    · subst g6'
      rw [show mad 6 b c = (224, 6 * b + c) from rfl]
      exact e11 _ (by omega) (by omega)
    · by_cases g7 : a = 7
      · subst g7
        rw [show mad 7 b c = (187, 46) from rfl]
        exact (k187 46).trans g46
      · have : a = 8 ∨ a = 9 ∨ a = 10 ∨ a = 11 := by omega
        rcases this with rfl | rfl | rfl | rfl
        · exact i0
        · exact i1
        · exact i2
        · exact i3
  · exact ((f11 _ _ (by omega)).1).trans (e10 j (by omega) hj).2
