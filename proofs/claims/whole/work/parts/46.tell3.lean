/-! tell. -/
theorem m_refuse1 {L : Nat} {q : am_Pq} {M : am_M} (S : am_Sh L q M) {Z : Nat → Nat → Int} (H : mWz M Z) (x1 x2 : Int32) (v3 : Value) (hx : x2 = am_i 0) : am_ev 217 599 95 [.ref 187, .int x1, .int x2, v3] [] M = some (some (.int (am_i (-1))), am_sI M 189 1 (am_i (Z 7 1 + 1))) := by
  subst hx
  have k9 := H.2.2.2.2.2.2.2.2.1 1 (by decide)
  rw [t217_95, am_br_ne (by omega) (by omega) (by omega) (by omega), if_pos rfl]
  simp (disch := omega) only [am_ob_p (kk_187 S), rr_187_9 S, am_ix_p (kk_189 S), am_iw_p (kk_189 S), am_gr_p, am_i_ix, Int.toNat_zero, Int.toNat_one, Int.toNat_natCast, Int.reduceToNat, am_lt, am_i_add, am_i_sub, am_i_mul, k9]
theorem c_tellRows {L : Nat} {q : am_Pq} {X : am_X} {Z : Nat → Nat → Int} (B1 : hB X) (BZ : zB X Z) (hh : isH q.2.2.1) {n : Nat} (hn : n ≤ 16) {M : am_M} (S : am_Sh L q M) (HX : cH M q.2.2.1 X) (HZ : cWz M (tZ Z)) :
    ∀ m r : Nat, r + m = n → am_ev 24 599 35 [.ref 2, .int (am_i (3 * (n : Int))), .int (am_i n), .int (am_i (3 * (r : Int)))] [] M = if roks X Z m r = 1 then some (some (.int (am_i n)), am_sI (am_cp M 30 0 33 0 (3 * n)) 2 9 (am_i n)) else some (some (.int (am_i (-1))), am_sI M 37 1 (am_i (tZ Z 7 1 + 1))) := by
  have e0 : ∀ b, tZ Z 0 b = Z 0 b := fun b => uZ_ne (by omega)
  intro m
  induction m with
  | zero =>
    intro r hr
    have : r = n := by omega
    subst this
    have ha := am_ac_p (w := 0) (kk_30 S) (kk_33 S) (sp := 0) (dp := 0) (n := 3 * (r : Int)) (by omega)
    have u5 : (3 * (r : Int)).toNat = 3 * r := by omega
    have S2 := Sh_cp S 30 0 33 0 (3 * r)
    rw [t24_35, am_br_ge (by omega) (by omega) (by omega) (by omega), if_pos (by omega), if_pos (by rfl), am_ob_p (kk_2 S), rr_2_1 S, am_gr_p, am_ob_p (kk_2 S), rr_2_8 S, am_gr_p, ha, am_i_ix (by omega) (by omega), am_i_ix (by omega) (by omega), u5]
    simp only [am_lt, Int.toNat_zero]
    rw [am_ob_p (kk_2 S2)]
  | succ m ih =>
    intro r hr
    have b0 := BZ.1 (3 * r)
    have b1 := BZ.1 (3 * r + 1)
    have b2 := BZ.1 (3 * r + 2)
    have u0 : (3 * (r : Int)).toNat = 3 * r := by omega
    have u1 : (3 * (r : Int) + 1).toNat = 3 * r + 1 := by omega
    have u2 : (3 * (r : Int) + 2).toNat = 3 * r + 2 := by omega
    have k0 := HZ.1 (3 * r) (by omega)
    have k1 := HZ.1 (3 * r + 1) (by omega)
    have k2 := HZ.1 (3 * r + 2) (by omega)
    rw [e0] at k0 k1 k2
    have f01 := is1_01 X 1 (Z 0 (3 * r + 1))
    have hr1 := c_isF S hh HX B1 (w := Z 0 (3 * r + 1)) (by omega) (by omega) 598
    have er := c_refuse S HZ (n := 1) (by decide) 598
    have ek : roks X Z (m + 1) r = if rok X Z r = 1 then roks X Z m (r + 1) else 0 := rfl
    have bad : rok X Z r = 0 → (if roks X Z (m + 1) r = 1 then some (some (.int (am_i n)), am_sI (am_cp M 30 0 33 0 (3 * n)) 2 9 (am_i n)) else some (some (.int (am_i (-1))), am_sI M 37 1 (am_i (tZ Z 7 1 + 1))) : am_Q) = some (some (.int (am_i (-1))), am_sI M 37 1 (am_i (tZ Z 7 1 + 1))) := fun h => if_neg (by rw [ek, if_neg (by omega)]; decide)
    rw [t24_35, am_br_ge (by omega) (by omega) (by omega) (by omega), if_neg (by omega), am_ob_p (kk_2 S), rr_2_1 S, am_gr_p, am_ix_p (kk_30 S) (by omega) (by omega) (by omega), am_i_ix (by omega) (by omega), u0, k0, am_br_ge (by omega) (by omega) (by omega) (by omega), am_ob_p (kk_2 S), show (am_i 1) = am_i ((1 : Nat) : Int) from rfl, er, am_bI_p]
    by_cases g : 24 ≤ Z 0 (3 * r)
    · rw [if_pos g, bad (if_neg (by omega))]
    · rw [if_neg g, show (am_i ((1 : Nat) : Int)) = am_i 1 from rfl]
      simp (disch := omega) only [am_ob_p (kk_2 S), am_gr_p, am_i_add, am_ix_p (kk_30 S), am_i_ix, u1, k1]
      rw [hr1, am_bI_p, am_br_eq (by omega) (by omega) (by omega) (by omega)]
      rcases f01 with g2 | g2
      · rw [if_p0 g2, am_ob_p (kk_2 S), show (am_i 1) = am_i ((1 : Nat) : Int) from rfl, er, am_bI_p, bad (if_neg (by omega))]
      · rw [if_p1 g2]
        simp (disch := omega) only [am_ob_p (kk_2 S), rr_2_1 S, am_gr_p, am_ix_p (kk_30 S), am_i_ix, u2, k2, am_br_le]
        by_cases g3 : Z 0 (3 * r + 2) ≤ 1
        · rw [if_pos g3, ek, show rok X Z r = 1 from if_pos ⟨by omega, g2, g3⟩, if_pos rfl]
          have := ih (r + 1) (by omega)
          rw [show 3 * ((r + 1 : Nat) : Int) = 3 * (r : Int) + 3 by omega] at this
          exact this
        · rw [if_neg g3, show (am_i 1) = am_i ((1 : Nat) : Int) from rfl, er, am_bI_p, bad (if_neg (by omega))]
theorem m_tellRows {L : Nat} {q : am_Pq} {X : am_X} {Z : Nat → Nat → Int} (B1 : hB X) (BZ : zB X Z) {n : Nat} (hn : n ≤ 16) {M : am_M} (S : am_Sh L q M) (HX : mH M X) (HZ : mWz M (tZ Z)) :
    ∀ m r : Nat, r + m = n → am_ev 217 599 36 [.ref 187, .int (am_i (3 * (n : Int))), .int (am_i 1), .int (am_i (3 * (r : Int)))] [] M = if roks X Z m r = 1 then am_ev 217 599 113 [.ref 187, .int (am_i (3 * (n : Int))), .int (am_i 1), .int (am_i 0)] [] M else some (some (.int (am_i (-1))), am_sI M 189 1 (am_i (tZ Z 7 1 + 1))) := by
  have e0 : ∀ b, tZ Z 0 b = Z 0 b := fun b => uZ_ne (by omega)
  intro m
  induction m with
  | zero =>
    intro r hr
    rw [t217_36, am_br_ge (by omega) (by omega) (by omega) (by omega), if_pos (by omega), if_pos (by rfl), t217_95, am_br_ne (by omega) (by omega) (by omega) (by omega), if_neg (by omega)]
  | succ m ih =>
    intro r hr
    have b0 := BZ.1 (3 * r)
    have b1 := BZ.1 (3 * r + 1)
    have b2 := BZ.1 (3 * r + 2)
    have u0 : (3 * (r : Int)).toNat = 3 * r := by omega
    have u1 : (3 * (r : Int) + 1).toNat = 3 * r + 1 := by omega
    have u2 : (3 * (r : Int) + 2).toNat = 3 * r + 2 := by omega
    have k0 := HZ.1 (3 * r) (by omega)
    have k1 := HZ.1 (3 * r + 1) (by omega)
    have k2 := HZ.1 (3 * r + 2) (by omega)
    rw [e0] at k0 k1 k2
    have f01 := is1_01 X 1 (Z 0 (3 * r + 1))
    have hr1 := m_isFilm S HX B1 (w := Z 0 (3 * r + 1)) (by omega) (by omega) 597
    have ek : roks X Z (m + 1) r = if rok X Z r = 1 then roks X Z m (r + 1) else 0 := rfl
    have bad : ∀ z : Int, (-2147483648 ≤ z ∧ z < 2147483648) → rok X Z r = 0 → am_ev 217 599 36 [.ref 187, .int (am_i (3 * (n : Int))), .int (am_i 0), .int (am_i z)] [] M = (if roks X Z (m + 1) r = 1 then am_ev 217 599 113 [.ref 187, .int (am_i (3 * (n : Int))), .int (am_i 1), .int (am_i 0)] [] M else some (some (.int (am_i (-1))), am_sI M 189 1 (am_i (tZ Z 7 1 + 1))) : am_Q) := fun z hz h => by
      rw [if_neg (by rw [ek, if_neg (by omega)]; decide), t217_36, am_br_ge (by omega) (by omega) (by omega) (by omega), am_br_eq (by omega) (by omega) (by omega) (by omega), if_pos rfl, m_refuse1 S HZ _ _ _ rfl, ite_self]
    rw [t217_36, am_br_ge (by omega) (by omega) (by omega) (by omega), if_neg (by omega), am_br_eq (by omega) (by omega) (by omega) (by omega), if_neg (by omega), am_ob_p (kk_187 S), rr_187_0 S, am_gr_p, am_ix_p (kk_188 S) (by omega) (by omega) (by omega), am_i_ix (by omega) (by omega), u0, k0, am_br_ge (by omega) (by omega) (by omega) (by omega)]
    by_cases g : 24 ≤ Z 0 (3 * r)
    · rw [if_pos g, am_i_add, bad _ (by omega) (if_neg (by omega))]
    · rw [if_neg g]
      simp (disch := omega) only [am_ob_p (kk_187 S), am_gr_p, am_i_add, am_ix_p (kk_188 S), am_i_ix, u1, k1]
      rw [hr1, am_bI_p, am_br_eq (by omega) (by omega) (by omega) (by omega)]
      rcases f01 with g2 | g2
      · rw [if_p0 g2, bad _ (by omega) (if_neg (by omega))]
      · rw [if_p1 g2]
        simp (disch := omega) only [am_ob_p (kk_187 S), rr_187_0 S, am_gr_p, am_ix_p (kk_188 S), am_i_ix, u2, k2, am_br_ge]
        by_cases g3 : 2 ≤ Z 0 (3 * r + 2)
        · rw [if_pos g3, bad _ (by omega) (if_neg (by omega))]
        · rw [if_neg g3, ek, show rok X Z r = 1 from if_pos ⟨by omega, g2, by omega⟩, if_pos rfl]
          have := ih (r + 1) (by omega)
          rw [show 3 * ((r + 1 : Nat) : Int) = 3 * (r : Int) + 3 by omega] at this
          exact this
theorem m_tellCopy {L : Nat} {q : am_Pq} {Z : Nat → Nat → Int} {n : Nat} (hn : n ≤ 16) {M : am_M} (h188 : ∀ k, k < 1600 → am_I M 188 k = am_i (Z 0 k)) :
    ∀ m k : Nat, k + m = 3 * n → ∀ (M1 : am_M) (v2 : Value), am_Sh L q M1 → fr (fun b _ => b = 235) M M1 → (∀ j, j < k → am_I M1 235 j = am_i (Z 0 j)) → (∀ j, k ≤ j → am_I M1 235 j = am_I M 235 j) →
      ∃ M2, am_ev 217 599 113 [.ref 187, .int (am_i (3 * (n : Int))), v2, .int (am_i k)] [] M1 = some (some (.int (am_i n)), am_sI M2 187 65 (am_i n)) ∧ am_Sh L q M2 ∧ fr (fun b _ => b = 235) M M2 ∧ (∀ j, j < 3 * n → am_I M2 235 j = am_i (Z 0 j)) ∧ (∀ j, 3 * n ≤ j → am_I M2 235 j = am_I M 235 j) := by
  intro m
  induction m with
  | zero =>
    intro k hk M1 v2 S1 f1 hI hI2
    refine ⟨M1, ?_, S1, f1, fun j hj => hI j (by omega), fun j hj => hI2 j (by omega)⟩
    have u : (3 * (n : Int)) / 3 = n := by omega
    rw [t217_113, am_br_ge (by omega) (by omega) (by omega) (by omega), if_pos (by omega), am_if_f (by decide), am_ob_p (kk_187 S1), am_i_div (by omega) (by omega) (by omega) (by omega), u]
    simp only [am_lt]
    rw [am_ob_p (kk_187 (S1.sI 187 65 (am_i n))), am_I_same]
  | succ m ih =>
    intro k hk M1 v2 S1 f1 hI hI2
    have e : am_I M1 188 k = am_i (Z 0 k) := by rw [(f1 188 k (show ¬ (188 : Nat) = 235 by decide)).1]; exact h188 k (by omega)
    obtain ⟨M2, r, hR⟩ := ih (k + 1) (by omega) _ (am_kl v2) (S1.sI 235 k (am_i (Z 0 k))) (fr_tr f1 (fr_sI rfl)) (fun j hj => by
      by_cases g : j = k
      · subst g
        rw [am_I_same]
      · rw [am_I_ne2 g]; exact hI j (by omega)) (fun j hj => by rw [am_I_ne2 (by omega)]; exact hI2 j (by omega))
    refine ⟨M2, ?_, hR⟩
    rw [t217_113, am_br_ge (by omega) (by omega) (by omega) (by omega), if_neg (by omega)]
    simp (disch := omega) only [am_ob_p (kk_187 S1), rr_187_66 S1, rr_187_0 S1, am_ix_p (kk_188 S1), am_iw_p (kk_235 S1), am_gr_p, am_i_ix, Int.toNat_zero, Int.toNat_one, Int.toNat_natCast, Int.reduceToNat, am_lt, am_i_add, am_i_sub, am_i_mul, e]
    exact r
theorem cWz_told {M : am_M} {Z : Nat → Nat → Int} {n : Nat} (hn : n ≤ 16) (H : cWz M (tZ Z)) : cWz (am_sI (am_cp M 30 0 33 0 (3 * n)) 2 9 (am_i n)) (toldZ Z n) := by
  have e0 : ∀ b, tZ Z 0 b = Z 0 b := fun b => uZ_ne (by omega)
  obtain ⟨k1, k2, k3, k4, k5, k6, k7, k8, k9, k10⟩ := H
  have e : ∀ a b, a ≠ 3 → a ≠ 4 → toldZ Z n a b = tZ Z a b := fun a b h h2 => (if_neg (fun g => h g.1)).trans (uZ_ne (fun g => h2 g.1))
  refine ⟨fun k hk => ?_, ?_, ?_, ?_, fun k hk => ?_, ?_, fun k hk => ?_, ?_, fun k hk => ?_, ?_⟩
  · rw [am_I_ne1 (by omega), am_I_cp_ne (by omega), e _ _ (by decide) (by decide)]; exact k1 k hk
  · rw [am_I_ne2 (by omega), am_I_cp_ne (by omega), e _ _ (by decide) (by decide)]; exact k2
  · rw [am_I_ne1 (by omega), am_I_cp_ne (by omega), e _ _ (by decide) (by decide)]; exact k3
  · rw [am_I_ne1 (by omega), am_I_cp_ne (by omega), e _ _ (by decide) (by decide)]; exact k4
  · rw [am_I_ne1 (by omega), am_I_cp]
    by_cases g : k < 3 * n
    · rw [if_pos ⟨rfl, by omega, by omega⟩, show 0 + (k - 0) = k by omega, k1 k (by omega), e0]
      exact congrArg am_i (if_pos ⟨rfl, g⟩ : toldZ Z n 3 k = Z 0 k).symm
    · rw [if_neg (by omega), k5 k hk]
      exact congrArg am_i ((if_neg (by omega) : toldZ Z n 3 k = uZ (tZ Z) 4 0 n 3 k).trans (uZ_ne (by omega))).symm
  · rw [am_I_same]
    exact congrArg am_i ((if_neg (by omega) : toldZ Z n 4 0 = uZ (tZ Z) 4 0 n 4 0).trans (uZ_eq _ _ _ _)).symm
  · rw [am_I_ne1 (by omega), am_I_cp_ne (by omega), e _ _ (by decide) (by decide)]; exact k7 k hk
  · rw [am_I_ne2 (by omega), am_I_cp_ne (by omega), e _ _ (by decide) (by decide)]; exact k8
  · rw [am_I_ne1 (by omega), am_I_cp_ne (by omega), e _ _ (by decide) (by decide)]; exact k9 k hk
  · rw [am_I_ne2 (by omega), am_I_cp_ne (by omega), e _ _ (by decide) (by decide)]; exact k10
theorem mWz_told {M M' : am_M} {Z : Nat → Nat → Int} {n : Nat} (hn : n ≤ 16) (H : mWz M (tZ Z)) (f : fr (fun b _ => b = 235) M M') (hI : ∀ j, j < 3 * n → am_I M' 235 j = am_i (Z 0 j)) (hI2 : ∀ j, 3 * n ≤ j → am_I M' 235 j = am_I M 235 j) : mWz (am_sI M' 187 65 (am_i n)) (toldZ Z n) := by
  obtain ⟨k1, k2, k3, k4, k5, k6, k7, k8, k9, k10⟩ := H
  have e : ∀ a b, a ≠ 3 → a ≠ 4 → toldZ Z n a b = tZ Z a b := fun a b h h2 => (if_neg (fun g => h g.1)).trans (uZ_ne (fun g => h2 g.1))
  have w : ∀ b k, b ≠ 235 → am_I M' b k = am_I M b k := fun b k h => (f b k h).1
  refine ⟨fun k hk => ?_, ?_, ?_, ?_, fun k hk => ?_, ?_, fun k hk => ?_, ?_, fun k hk => ?_, ?_⟩
  · rw [am_I_ne1 (by omega), w _ _ (by decide), e _ _ (by decide) (by decide)]; exact k1 k hk
  · rw [am_I_ne2 (by omega), w _ _ (by decide), e _ _ (by decide) (by decide)]; exact k2
  · rw [am_I_ne2 (by omega), w _ _ (by decide), e _ _ (by decide) (by decide)]; exact k3
  · rw [am_I_ne2 (by omega), w _ _ (by decide), e _ _ (by decide) (by decide)]; exact k4
  · rw [am_I_ne1 (by omega)]
    by_cases g : k < 3 * n
    · rw [hI k g]
      exact congrArg am_i (if_pos ⟨rfl, g⟩ : toldZ Z n 3 k = Z 0 k).symm
    · rw [hI2 k (by omega), k5 k hk]
      exact congrArg am_i ((if_neg (by omega) : toldZ Z n 3 k = uZ (tZ Z) 4 0 n 3 k).trans (uZ_ne (by omega))).symm
  · rw [am_I_same]
    exact congrArg am_i ((if_neg (by omega) : toldZ Z n 4 0 = uZ (tZ Z) 4 0 n 4 0).trans (uZ_eq _ _ _ _)).symm
  · rw [am_I_ne1 (by omega), w _ _ (by decide), e _ _ (by decide) (by decide)]; exact k7 k hk
  · rw [am_I_ne2 (by omega), w _ _ (by decide), e _ _ (by decide) (by decide)]; exact k8
  · rw [am_I_ne1 (by omega), w _ _ (by decide), e _ _ (by decide) (by decide)]; exact k9 k hk
  · rw [am_L_sI', (f 187 70 (by decide)).2, e _ _ (by decide) (by decide)]; exact k10
theorem zB_told {X : am_X} {Z : Nat → Nat → Int} (B : zB X Z) {n : Nat} (hn : n ≤ 16) (hr : roks X Z n 0 = 1) : zB X (toldZ Z n) := by
  obtain ⟨b1, b2, b3, b4, b5, b6⟩ := zB_t B
  have e : ∀ a b, a ≠ 3 → a ≠ 4 → toldZ Z n a b = tZ Z a b := fun a b h h2 => (if_neg (fun g => h g.1)).trans (uZ_ne (fun g => h2 g.1))
  have e4 : toldZ Z n 4 0 = n := (if_neg (by omega) : toldZ Z n 4 0 = uZ (tZ Z) 4 0 n 4 0).trans (uZ_eq _ _ _ _)
  refine ⟨fun k => by rw [e _ _ (by decide) (by decide)]; exact b1 k, by rw [e _ _ (by decide) (by decide)]; exact b2, by rw [e4]; omega, fun r h => ?_, by rw [e _ _ (by decide) (by decide)]; exact b5, by rw [e _ _ (by decide) (by decide)]; exact b6⟩
  rw [e4] at h
  have e3 : ∀ j, j < 3 * n → toldZ Z n 3 j = Z 0 j := fun j hj => if_pos ⟨rfl, hj⟩
  have hk := roks_all X Z n 0 hr r (by omega) (by omega)
  have c0 := B.1 (3 * r)
  have c1 := B.1 (3 * r + 1)
  have c2 := B.1 (3 * r + 2)
  rw [e3 _ (by omega), e3 _ (by omega), e3 _ (by omega)]
  unfold rok at hk
  split at hk
  · rename_i g
    obtain ⟨g1, g2, g3⟩ := g
    unfold is1 at g2
    split at g2
    · rename_i g4
      exact ⟨⟨c0.1, by omega⟩, ⟨g4.1, g4.2⟩, ⟨c2.1, g3⟩⟩
    · omega
  · omega
theorem call_tell {L : Nat} {xs : Nat → Int32} {M : am_M} {W : am_Wo} {b : Nat} (R : Rel L xs M W b) : Call L xs 24 217 [] M b := by
  obtain ⟨q, hq, S, HC, HM, B, h0⟩ := R
  have hh := qok_h hq
  have hh' : q.2.2.1 = 4 ∨ q.2.2.1 = 38 := hh
  have B1 := B.1
  have BZ := B.2.2.2.2.2.2
  have bN := BZ.2.1
  have HZc := HC.2.2.2.2.2.2.1
  have HZm := HM.2.2.2.2.2.2.1
  have eT := c_takeTape S HZc 598
  have S1 := S.sI 2 2 (am_i 0)
  have HX1 : cH (am_sI M 2 2 (am_i 0)) q.2.2.1 (wX W) := cH_mv HC.1 B1 (fun b k h1 h2 => am_I_ne1 (by omega))
  have z1 := cWz_t HZc
  have er := c_refuse S1 z1 (n := 1) (by decide) 598
  have j2 : am_I M 187 1 = am_i (wZ W 1 0) := HZm.2.1
  -- refused
  have no : am_cl 24 599 [.ref 2] M = some (some (.int (am_i (-1))), am_sI (am_sI M 2 2 (am_i 0)) 37 1 (am_i (tZ (wZ W) 7 1 + 1))) → (∀ M1, am_Sh L q M1 → mWo M1 W → am_cl 217 599 [.ref 187] M1 = some (some (.int (am_i (-1))), am_sI (am_sI M1 187 1 (am_i 0)) 189 1 (am_i (tZ (wZ W) 7 1 + 1)))) → Call L xs 24 217 [] M b := by
    intro s1 s2
    have f1 : fr (fun b k => (sC q b k ∨ zC b k) ∧ b < 187) M (am_sI (am_sI M 2 2 (am_i 0)) 37 1 (am_i (tZ (wZ W) 7 1 + 1))) := fr_tr fr_22 fr_37
    have HM1 : mWo (am_sI (am_sI M 2 2 (am_i 0)) 37 1 (am_i (tZ (wZ W) 7 1 + 1))) W := mWo_mv HM B1 (fr_mono f1 (fun b k h => sM_lt h.2))
    exact Call_Z (Z := refZ (tZ (wZ W)) 1) (iv _) hq HC HM B h0 s1 f1 (cWz_7 z1 1) hq rfl (s2 _ (S1.sI _ _ _) HM1) (fr_tr fr_1871 fr_189) (mWz_7 (mWz_t HM1.2.2.2.2.2.2.1) 1) (zB_7 (zB_t BZ) 1) (((S1.sI _ _ _).sI _ _ _).sI _ _ _)
  have m36 : ∀ (M1 : am_M), am_Sh L q M1 → mWz M1 (tZ (wZ W)) → am_ev 217 599 36 [.ref 187, .int (am_i (wZ W 1 0)), .int (am_i 0), .int (am_i 0)] [] M1 = some (some (.int (am_i (-1))), am_sI M1 189 1 (am_i (tZ (wZ W) 7 1 + 1))) := by
    intro M1 S1 z
    rw [t217_36, am_br_ge (by omega) (by omega) (by omega) (by omega), am_br_eq (by omega) (by omega) (by omega) (by omega), if_pos rfl, m_refuse1 S1 z _ _ _ rfl, ite_self]
  by_cases g : wZ W 1 0 % 3 = 0 ∧ 1 ≤ wZ W 1 0 / 3 ∧ wZ W 1 0 / 3 ≤ 16
  · obtain ⟨g1, g2, g3⟩ := g
    obtain ⟨n, hn⟩ : ∃ n : Nat, wZ W 1 0 / 3 = n := ⟨(wZ W 1 0 / 3).toNat, by omega⟩
    have hN : wZ W 1 0 = 3 * (n : Int) := by omega
    have hd : (3 * (n : Int)) / 3 = n := by omega
    have cl := c_tellRows B1 BZ hh (n := n) (by omega) S1 HX1 z1 n 0 (by omega)
    have ce : am_cl 24 599 [.ref 2] M = am_ev 24 599 35 [.ref 2, .int (am_i (3 * (n : Int))), .int (am_i n), .int (am_i (3 * ((0 : Nat) : Int)))] [] (am_sI M 2 2 (am_i 0)) := by
      rw [t24, am_ob_p (kk_2 S), eT, am_bI_p, am_if_f (by decide), hN, am_i_div (by omega) (by omega) (by omega) (by omega), hd, am_i_mul, am_br_lt (by omega) (by omega) (by omega) (by omega), if_neg (by omega), am_br_gt (by omega) (by omega) (by omega) (by omega), if_neg (by omega), am_br_eq (by omega) (by omega) (by omega) (by omega), if_pos (by omega)]
      rfl
    have me : ∀ M1, am_Sh L q M1 → mWo M1 W → am_cl 217 599 [.ref 187] M1 = if roks (wX W) (wZ W) n 0 = 1 then am_ev 217 599 113 [.ref 187, .int (am_i (3 * (n : Int))), .int (am_i 1), .int (am_i 0)] [] (am_sI M1 187 1 (am_i 0)) else some (some (.int (am_i (-1))), am_sI (am_sI M1 187 1 (am_i 0)) 189 1 (am_i (tZ (wZ W) 7 1 + 1))) := by
      intro M1 S2 HM1
      have S3 := S2.sI 187 1 (am_i 0)
      have e1 : am_I M1 187 1 = am_i (wZ W 1 0) := HM1.2.2.2.2.2.2.1.2.1
      have ml := m_tellRows B1 BZ (n := n) (by omega) S3 (mH_mv HM1.1 B1 (fun b k k1 k2 k3 => am_I_ne1 (by omega))) (mWz_t HM1.2.2.2.2.2.2.1) n 0 (by omega)
      rw [t217, am_ob_p (kk_187 S2), am_ob_p (kk_187 S2), e1]
      simp only [am_lt]
      rw [hN, am_br_le (by omega) (by omega) (by omega) (by omega), if_neg (by omega), am_if_f (by decide), am_i_rem (by omega) (by omega) (by omega) (by omega), am_br_ne (by omega) (by omega) (by omega) (by omega), if_pos (by omega), am_if_f (by decide), am_i_div (by omega) (by omega) (by omega) (by omega), hd, am_br_gt (by omega) (by omega) (by omega) (by omega), if_neg (by omega)]
      exact ml
    by_cases g4 : roks (wX W) (wZ W) n 0 = 1
    · rw [if_pos g4] at cl
      have f1 : fr (fun b k => (sC q b k ∨ zC b k) ∧ b < 187) M (am_sI (am_cp (am_sI M 2 2 (am_i 0)) 30 0 33 0 (3 * n)) 2 9 (am_i n)) := fr_tr fr_22 (fr_tr (fr_cp (fun k => ⟨Or.inr (Or.inr (Or.inl rfl)), by decide⟩)) (fr_sI ⟨Or.inr (Or.inr (Or.inr (Or.inr (Or.inr (Or.inl ⟨rfl, Or.inr (Or.inl rfl)⟩))))), by decide⟩))
      have HM1 := mWo_mv HM B1 (fr_mono f1 (fun b k h => sM_lt h.2))
      have S2 : am_Sh L q (am_sI (am_cp (am_sI M 2 2 (am_i 0)) 30 0 33 0 (3 * n)) 2 9 (am_i n)) := (Sh_cp S1 30 0 33 0 (3 * n)).sI _ _ _
      have mm := me _ S2 HM1
      rw [if_pos g4] at mm
      have z2 := mWz_t HM1.2.2.2.2.2.2.1
      obtain ⟨M3, r3, S3, f3, i3, i4⟩ := m_tellCopy (L := L) (q := q) (Z := wZ W) (n := n) (by omega) (fun k hk => by rw [z2.1 k hk]; exact congrArg am_i (uZ_ne (by omega))) (3 * n) 0 (by omega) _ (.int (am_i 1)) (S2.sI 187 1 (am_i 0)) (fr_rfl _ _) (fun j hj => absurd hj (by omega)) (fun j _ => rfl)
      exact Call_Z (Z := toldZ (wZ W) n) (iv _) hq HC HM B h0 (ce.trans cl) f1 (cWz_told (by omega) z1) hq rfl (mm.trans r3) (fr_tr fr_1871 (fr_tr (fr_mono f3 (fun b k h => ⟨Or.inr (Or.inr (Or.inl h)), by omega⟩)) (fr_sI ⟨Or.inr (Or.inr (Or.inr (Or.inr (Or.inr ⟨rfl, by omega⟩)))), by decide⟩))) (mWz_told (by omega) z2 f3 i3 i4) (zB_told BZ (by omega) g4) (S3.sI _ _ _)
    · rw [if_neg g4] at cl
      exact no (ce.trans cl) (fun M1 S2 HM1 => by rw [me M1 S2 HM1, if_neg g4])
  · refine no ?_ (fun M1 S2 HM1 => ?_)
    · rw [t24, am_ob_p (kk_2 S), eT, am_bI_p, am_if_f (by decide), am_i_div (by omega) (by omega) (by omega) (by omega), am_i_mul, am_br_lt (by omega) (by omega) (by omega) (by omega), am_ob_p (kk_2 S1), show (am_i 1) = am_i ((1 : Nat) : Int) from rfl, er, am_bI_p]
      by_cases g2 : wZ W 1 0 / 3 < 1
      · rw [if_pos g2]
      · rw [if_neg g2, am_br_gt (by omega) (by omega) (by omega) (by omega)]
        by_cases g3 : 16 < wZ W 1 0 / 3
        · rw [if_pos g3]
        · rw [if_neg g3, am_br_eq (by omega) (by omega) (by omega) (by omega), if_neg (by omega)]
    · have S3 := S2.sI 187 1 (am_i 0)
      have e1 : am_I M1 187 1 = am_i (wZ W 1 0) := HM1.2.2.2.2.2.2.1.2.1
      have hm := m36 _ S3 (mWz_t HM1.2.2.2.2.2.2.1)
      rw [t217, am_ob_p (kk_187 S2), am_ob_p (kk_187 S2), e1]
      simp only [am_lt]
      rw [am_br_le (by omega) (by omega) (by omega) (by omega)]
      by_cases g1 : wZ W 1 0 ≤ 0
      · rw [if_pos g1]; exact hm
      · rw [if_neg g1, am_if_f (by decide), am_i_rem (by omega) (by omega) (by omega) (by omega), am_br_ne (by omega) (by omega) (by omega) (by omega)]
        by_cases g2 : wZ W 1 0 % 3 = 0
        · rw [if_pos g2, am_if_f (by decide), am_i_div (by omega) (by omega) (by omega) (by omega), am_br_gt (by omega) (by omega) (by omega) (by omega), if_pos (by omega)]; exact hm
        · rw [if_neg g2]; exact hm
