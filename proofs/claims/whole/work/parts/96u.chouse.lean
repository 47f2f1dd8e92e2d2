/-! house, where it is refused. -/
theorem cWz_pl {M M' : am_M} {Z : Nat → Nat → Int} {v w : Int} (H : cWz M Z) (e : ∀ b k, zC b k → b ≠ 3 → am_I M' b k = am_I M b k) (h0 : am_I M' 3 0 = am_i v) (h1 : am_I M' 3 1 = am_i w) : cWz M' (uZ (uZ Z 2 0 v) 2 1 w) := by
  obtain ⟨k1, k2, k3, k4, k5, k6, k7, k8, k9, k10⟩ := H
  have g : ∀ a b, a ≠ 2 → uZ (uZ Z 2 0 v) 2 1 w a b = Z a b := fun a b h => by rw [uZ_ne (by omega), uZ_ne (by omega)]
  refine ⟨fun k hk => ?_, ?_, ?_, ?_, fun k hk => ?_, ?_, fun k hk => ?_, ?_, fun k hk => ?_, ?_⟩
  · rw [g _ _ (by omega), e _ _ (by unfold zC; omega) (by omega)]; exact k1 k hk
  · rw [g _ _ (by omega), e _ _ (by unfold zC; omega) (by omega)]; exact k2
  · rw [h0, uZ_ne (by omega), uZ_eq]
  · rw [h1, uZ_eq]
  · rw [g _ _ (by omega), e _ _ (by unfold zC; omega) (by omega)]; exact k5 k hk
  · rw [g _ _ (by omega), e _ _ (by unfold zC; omega) (by omega)]; exact k6
  · rw [g _ _ (by omega), e _ _ (by unfold zC; omega) (by omega)]; exact k7 k hk
  · rw [g _ _ (by omega), e _ _ (by unfold zC; omega) (by omega)]; exact k8
  · rw [g _ _ (by omega), e _ _ (by unfold zC; omega) (by omega)]; exact k9 k hk
  · rw [g _ _ (by omega), e _ _ (by unfold zC; omega) (by omega)]; exact k10
theorem pMx_c {b k : Nat} (h : pMx b k) : (b = 187 ∧ ((1 ≤ k ∧ k ≤ 8) ∨ k = 39 ∨ k = 46 ∨ (51 ≤ k ∧ k ≤ 53) ∨ (56 ≤ k ∧ k ≤ 59) ∨ k = 92 ∨ (94 ≤ k ∧ k ≤ 96) ∨ (98 ≤ k ∧ k ≤ 100))) ∨ (b = 189 ∧ k = 1) ∨ (219 ≤ b ∧ b ≤ 234) ∨ (257 ≤ b ∧ b ≤ 259) := by
  rcases h with (⟨h, h0⟩ | h) | h | h
  · unfold sM at h
    rcases h with h | h | h | h | h | h | h | h | h | h | h | h | h | h <;> omega
  · omega
  · omega
  · omega
theorem pMx_z {b k : Nat} (h : pMx b k) : (sM b k ∨ zM b k) ∧ 187 ≤ b := by
  rcases h with (h | h) | h | h
  · exact ⟨Or.inl h.1, h.2⟩
  · exact ⟨Or.inr (by unfold zM; omega), by omega⟩
  · exact ⟨Or.inr (by unfold zM; omega), by omega⟩
  · exact ⟨Or.inr (by unfold zM; omega), by omega⟩
theorem mWz_pl {M M' : am_M} {Z : Nat → Nat → Int} {v w : Int} (H : mWz M Z) (f : fr pMx M M') (e1 : am_I M' 187 1 = am_i 0) (e7 : am_I M' 187 7 = am_i v) (e8 : am_I M' 187 8 = am_i w) (e9 : am_I M' 189 1 = am_i (Z 7 1 + 1)) : mWz M' (refZ (uZ (uZ (tZ Z) 2 0 v) 2 1 w) 1) := by
  obtain ⟨k1, k2, k3, k4, k5, k6, k7, k8, k9, k10⟩ := H
  have g : ∀ a b, a ≠ 1 → a ≠ 2 → ¬ (a = 7 ∧ b = 1) → refZ (uZ (uZ (tZ Z) 2 0 v) 2 1 w) 1 a b = Z a b := fun a b h1 h2 h3 => by
    unfold refZ tZ
    rw [uZ_ne h3, uZ_ne (by omega), uZ_ne (by omega), uZ_ne (by omega)]
  have nf : ∀ b k, ¬ ((b = 187 ∧ ((1 ≤ k ∧ k ≤ 8) ∨ k = 39 ∨ k = 46 ∨ (51 ≤ k ∧ k ≤ 53) ∨ (56 ≤ k ∧ k ≤ 59) ∨ k = 92 ∨ (94 ≤ k ∧ k ≤ 96) ∨ (98 ≤ k ∧ k ≤ 100))) ∨ (b = 189 ∧ k = 1) ∨ (219 ≤ b ∧ b ≤ 234) ∨ (257 ≤ b ∧ b ≤ 259)) → am_I M' b k = am_I M b k ∧ am_L M' b k = am_L M b k := fun b k h => f b k (fun h2 => h (pMx_c h2))
  refine ⟨fun k hk => ?_, ?_, ?_, ?_, fun k hk => ?_, ?_, fun k hk => ?_, ?_, fun k hk => ?_, ?_⟩
  · rw [g _ _ (by omega) (by omega) (by omega), (nf _ _ (by omega)).1]; exact k1 k hk
  · rw [e1]
    unfold refZ tZ
    rw [uZ_ne (by omega), uZ_ne (by omega), uZ_ne (by omega), uZ_eq]
  · rw [e7]
    unfold refZ
    rw [uZ_ne (by omega), uZ_ne (by omega), uZ_eq]
  · rw [e8]
    unfold refZ
    rw [uZ_ne (by omega), uZ_eq]
  · rw [g _ _ (by omega) (by omega) (by omega), (nf _ _ (by omega)).1]; exact k5 k hk
  · rw [g _ _ (by omega) (by omega) (by omega), (nf _ _ (by omega)).1]; exact k6
  · rw [g _ _ (by omega) (by omega) (by omega), (nf _ _ (by omega)).1]; exact k7 k hk
  · rw [g _ _ (by omega) (by omega) (by omega), (nf _ _ (by omega)).1]; exact k8
  · by_cases h : k = 1
    · subst h
      rw [e9]
      unfold refZ
      rw [uZ_eq]
      unfold tZ
      rw [uZ_ne (by omega), uZ_ne (by omega), uZ_ne (by omega)]
    · rw [g _ _ (by omega) (by omega) (by omega), (nf _ _ (by omega)).1]; exact k9 k hk
  · rw [g _ _ (by omega) (by omega) (by omega), (nf _ _ (by omega)).2]; exact k10
