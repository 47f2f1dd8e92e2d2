/-! feed, end. -/
def fbyte (z : Nat → Int) (k : Nat) : Int := z (k / 4) / ((2 ^ (24 - 8 * (k % 4)) : Nat) : Int) % 256
def fedZ (Z : Nat → Nat → Int) (z : Nat → Int) (N n : Nat) : Nat → Nat → Int := fun a b => if a = 0 ∧ N ≤ b ∧ b < N + n then fbyte z (b - N) else if a = 1 ∧ b = 0 then ((N + n : Nat) : Int) else Z a b
theorem fedZ_o {Z : Nat → Nat → Int} {z : Nat → Int} {N n a b : Nat} (h0 : a ≠ 0) (h1 : a ≠ 1) : fedZ Z z N n a b = Z a b := (if_neg (fun h => h0 h.1)).trans (if_neg (fun h => h1 h.1))
theorem fedZ_1 (Z : Nat → Nat → Int) (z : Nat → Int) (N n : Nat) : fedZ Z z N n 1 0 = ((N + n : Nat) : Int) := (if_neg (by omega)).trans (if_pos ⟨rfl, rfl⟩)
theorem fedZ_0 (Z : Nat → Nat → Int) (z : Nat → Int) {N n k : Nat} : fedZ Z z N (n + 1) 0 k = if k = N + n then fbyte z n else fedZ Z z N n 0 k := by
  by_cases g : k = N + n
  · subst g
    rw [if_pos rfl]
    refine (if_pos (by omega)).trans ?_
    rw [show N + n - N = n by omega]
  · rw [if_neg g]
    by_cases g2 : N ≤ k ∧ k < N + n
    · exact (if_pos (by omega)).trans (if_pos ⟨rfl, g2.1, g2.2⟩).symm
    · exact ((if_neg (by omega)).trans (if_neg (by omega))).trans ((if_neg (fun h => g2 ⟨h.2.1, h.2.2⟩)).trans (if_neg (by omega))).symm
theorem cWz_fed {M : am_M} {Z : Nat → Nat → Int} {z : Nat → Int} {N n : Nat} (H : cWz M (fedZ Z z N n)) : cWz (am_sI (am_sI M 30 (N + n) (am_i (fbyte z n))) 2 2 (am_i ((N + (n + 1) : Nat) : Int))) (fedZ Z z N (n + 1)) := by
  obtain ⟨k1, k2, k3, k4, k5, k6, k7, k8, k9, k10⟩ := H
  have e : ∀ a b, a ≠ 0 → a ≠ 1 → fedZ Z z N (n + 1) a b = fedZ Z z N n a b := fun a b h h2 => (fedZ_o h h2).trans (fedZ_o h h2).symm
  refine ⟨fun k hk => ?_, ?_, ?_, ?_, fun k hk => ?_, ?_, fun k hk => ?_, ?_, fun k hk => ?_, ?_⟩
  · rw [am_I_ne1 (by omega), fedZ_0]
    by_cases g : k = N + n
    · subst g; rw [am_I_same, if_pos rfl]
    · rw [am_I_ne2 g, if_neg g]; exact k1 k hk
  · rw [am_I_same, fedZ_1]
  · rw [am_I_ne1 (by omega), am_I_ne1 (by omega), e _ _ (by decide) (by decide)]; exact k3
  · rw [am_I_ne1 (by omega), am_I_ne1 (by omega), e _ _ (by decide) (by decide)]; exact k4
  · rw [am_I_ne1 (by omega), am_I_ne1 (by omega), e _ _ (by decide) (by decide)]; exact k5 k hk
  · rw [am_I_ne2 (by omega), am_I_ne1 (by omega), e _ _ (by decide) (by decide)]; exact k6
  · rw [am_I_ne1 (by omega), am_I_ne1 (by omega), e _ _ (by decide) (by decide)]; exact k7 k hk
  · rw [am_I_ne2 (by omega), am_I_ne1 (by omega), e _ _ (by decide) (by decide)]; exact k8
  · rw [am_I_ne1 (by omega), am_I_ne1 (by omega), e _ _ (by decide) (by decide)]; exact k9 k hk
  · rw [am_I_ne2 (by omega), am_I_ne1 (by omega), e _ _ (by decide) (by decide)]; exact k10
theorem mWz_fed {M : am_M} {Z : Nat → Nat → Int} {z : Nat → Int} {N n : Nat} (H : mWz M (fedZ Z z N n)) : mWz (am_sI (am_sI M 188 (N + n) (am_i (fbyte z n))) 187 1 (am_i ((N + (n + 1) : Nat) : Int))) (fedZ Z z N (n + 1)) := by
  obtain ⟨k1, k2, k3, k4, k5, k6, k7, k8, k9, k10⟩ := H
  have e : ∀ a b, a ≠ 0 → a ≠ 1 → fedZ Z z N (n + 1) a b = fedZ Z z N n a b := fun a b h h2 => (fedZ_o h h2).trans (fedZ_o h h2).symm
  refine ⟨fun k hk => ?_, ?_, ?_, ?_, fun k hk => ?_, ?_, fun k hk => ?_, ?_, fun k hk => ?_, ?_⟩
  · rw [am_I_ne1 (by omega), fedZ_0]
    by_cases g : k = N + n
    · subst g; rw [am_I_same, if_pos rfl]
    · rw [am_I_ne2 g, if_neg g]; exact k1 k hk
  · rw [am_I_same, fedZ_1]
  · rw [am_I_ne2 (by omega), am_I_ne1 (by omega), e _ _ (by decide) (by decide)]; exact k3
  · rw [am_I_ne2 (by omega), am_I_ne1 (by omega), e _ _ (by decide) (by decide)]; exact k4
  · rw [am_I_ne1 (by omega), am_I_ne1 (by omega), e _ _ (by decide) (by decide)]; exact k5 k hk
  · rw [am_I_ne2 (by omega), am_I_ne1 (by omega), e _ _ (by decide) (by decide)]; exact k6
  · rw [am_I_ne1 (by omega), am_I_ne1 (by omega), e _ _ (by decide) (by decide)]; exact k7 k hk
  · rw [am_I_ne2 (by omega), am_I_ne1 (by omega), e _ _ (by decide) (by decide)]; exact k8
  · rw [am_I_ne1 (by omega), am_I_ne1 (by omega), e _ _ (by decide) (by decide)]; exact k9 k hk
  · rw [am_L_sI', am_L_sI', e _ _ (by decide) (by decide)]; exact k10
theorem zB_fed {X : am_X} {Z : Nat → Nat → Int} (B : zB X Z) (z : Nat → Int) {N n : Nat} (h : N + n ≤ 1600) : zB X (fedZ Z z N n) := by
  obtain ⟨b1, b2, b3, b4, b5, b6⟩ := B
  have e : ∀ a b, a ≠ 0 → a ≠ 1 → fedZ Z z N n a b = Z a b := fun a b h h2 => fedZ_o h h2
  refine ⟨fun k => ?_, by rw [fedZ_1]; omega, by rw [e _ _ (by decide) (by decide)]; exact b3, fun r hr => ?_, by rw [e _ _ (by decide) (by decide)]; exact b5, by rw [e _ _ (by decide) (by decide)]; exact b6⟩
  · unfold fedZ
    split
    · unfold fbyte
      omega
    · rw [if_neg (by omega)]; exact b1 k
  · rw [e _ _ (by decide) (by decide)] at hr
    rw [e _ _ (by decide) (by decide), e _ _ (by decide) (by decide), e _ _ (by decide) (by decide)]
    exact b4 r hr
theorem fr_30 {q : am_Pq} {M : am_M} {n : Nat} {v w : Int32} : fr (fun b k => (sC q b k ∨ zC b k) ∧ b < 187) M (am_sI (am_sI M 30 n v) 2 2 w) := fr_tr (fr_sI ⟨Or.inr (Or.inl rfl), by decide⟩) fr_22
theorem fr_188 {M : am_M} {n : Nat} {v w : Int32} : fr (fun b k => (sM b k ∨ zM b k) ∧ 187 ≤ b) M (am_sI (am_sI M 188 n v) 187 1 w) := fr_tr (fr_sI ⟨Or.inr (Or.inl rfl), by decide⟩) fr_1871
theorem c_feedNumber {L : Nat} {q : am_Pq} {Z : Nat → Nat → Int} {z : Nat → Int} {N : Nat} (hN : N + 20 ≤ 1600) {i : Nat} (hi : i < 5) (hz : -2147483648 ≤ z i ∧ z i < 2147483648) {M : am_M} (S : am_Sh L q M) (HZ : cWz M (fedZ Z z N (4 * i))) (d : Nat) :
    ∃ M', am_cl 38 d [.ref 2, .int (am_i (z i))] M = some (none, M') ∧ am_Sh L q M' ∧ fr (fun b k => (sC q b k ∨ zC b k) ∧ b < 187) M M' ∧ cWz M' (fedZ Z z N (4 * (i + 1))) := by
  have key : ∀ m j : Nat, j + m = 4 → ∀ M1 : am_M, am_Sh L q M1 → fr (fun b k => (sC q b k ∨ zC b k) ∧ b < 187) M M1 → cWz M1 (fedZ Z z N (4 * i + j)) →
      ∃ M', am_ev 38 d 3 [.ref 2, .int (am_i (z i)), .int (am_i (24 - 8 * (j : Int)))] [] M1 = some (none, M') ∧ am_Sh L q M' ∧ fr (fun b k => (sC q b k ∨ zC b k) ∧ b < 187) M M' ∧ cWz M' (fedZ Z z N (4 * (i + 1))) := by
    intro m
    induction m with
    | zero =>
      intro j hj M1 S1 f1 H1
      have : j = 4 := by omega
      subst this
      refine ⟨M1, ?_, S1, f1, H1⟩
      rw [t38_3, am_br_lt (by omega) (by omega) (by omega) (by omega), if_pos (by omega)]
    | succ m ih =>
      intro j hj M1 S1 f1 H1
      have e2 := H1.2.1
      rw [fedZ_1] at e2
      have u : ((N + (4 * i + j) : Nat) : Int).toNat = N + (4 * i + j) := by omega
      have es : (24 - 8 * (j : Int)) = ((24 - 8 * j : Nat) : Int) := by omega
      have eb : z i / ((2 ^ (24 - 8 * j) : Nat) : Int) % 256 = fbyte z (4 * i + j) := by
        unfold fbyte
        rw [show (4 * i + j) / 4 = i by omega, show (4 * i + j) % 4 = j by omega]
      obtain ⟨M', r, hR⟩ := ih (j + 1) (by omega) _ ((S1.sI 30 (N + (4 * i + j)) (am_i (fbyte z (4 * i + j)))).sI 2 2 (am_i ((N + ((4 * i + j) + 1) : Nat) : Int))) (fr_tr f1 fr_30) (cWz_fed H1)
      refine ⟨M', ?_, hR⟩
      rw [t38_3, am_br_lt (by omega) (by omega) (by omega) (by omega), if_neg (by omega), am_ob_p (kk_2 S1), e2, am_br_ge (by omega) (by omega) (by omega) (by omega), if_neg (by omega), am_ob_p (kk_2 S1), rr_2_1 S1, am_gr_p, am_ob_p (kk_2 S1), am_iw_p (kk_30 S1) (by omega) (by omega) (by omega) (by omega), am_i_ix (by omega) (by omega), u, es, shr_i hz.1 hz.2 (by omega), and_255, eb]
      simp only [am_lt]
      rw [am_ob_p (kk_2 (S1.sI 30 _ _)), am_ob_p (kk_2 (S1.sI 30 _ _)), am_I_ne1 (by omega), e2, am_i_add, am_i_add, show ((24 - 8 * j : Nat) : Int) + (-8) = 24 - 8 * ((j + 1 : Nat) : Int) by omega, show ((N + (4 * i + j) : Nat) : Int) + 1 = ((N + ((4 * i + j) + 1) : Nat) : Int) by omega]
      exact r
  rw [t38]
  exact key 4 0 (by omega) M S (fr_rfl _ _) HZ
def five (a b c d e : Int) (i : Nat) : Int := if i = 0 then a else if i = 1 then b else if i = 2 then c else if i = 3 then d else e
theorem call_feed {L : Nat} {xs : Nat → Int32} {M : am_M} {W : am_Wo} {b : Nat} (R : Rel L xs M W b) (x1 x2 x3 x4 x5 : Int32) : Call L xs 2 128 [.int x1, .int x2, .int x3, .int x4, .int x5] M b := by
  obtain ⟨q, hq, S, HC, HM, B, h0⟩ := R
  obtain ⟨z1, rfl, a1, a2⟩ := int_of x1
  obtain ⟨z2, rfl, b1, b2⟩ := int_of x2
  obtain ⟨z3, rfl, c1, c2⟩ := int_of x3
  obtain ⟨z4, rfl, d1, d2⟩ := int_of x4
  obtain ⟨z5, rfl, e1, e2⟩ := int_of x5
  have B1 := B.1
  have BZ := B.2.2.2.2.2.2
  have HZc := HC.2.2.2.2.2.2.1
  have bN := BZ.2.1
  obtain ⟨N, hN⟩ : ∃ N : Nat, wZ W 1 0 = N := ⟨(wZ W 1 0).toNat, by omega⟩
  have l2 : am_I M 2 2 = am_i N := by rw [← hN]; exact HZc.2.1
  have f0 : ∀ k, fedZ (wZ W) (five z1 z2 z3 z4 z5) N 0 k = wZ W k := fun k => by
    funext b
    unfold fedZ
    rw [if_neg (by omega)]
    split
    · rename_i h; rw [h.1, h.2, hN]; rfl
    · rfl
  have f0' : fedZ (wZ W) (five z1 z2 z3 z4 z5) N 0 = wZ W := funext f0
  by_cases g : N + 20 ≤ 1600
  · obtain ⟨z, hzz⟩ : ∃ z : Nat → Int, z = five z1 z2 z3 z4 z5 := ⟨_, rfl⟩
    rw [← hzz] at f0'
    have zz0 : z 0 = z1 := by rw [hzz]; rfl
    have zz1 : z 1 = z2 := by rw [hzz]; rfl
    have zz2 : z 2 = z3 := by rw [hzz]; rfl
    have zz3 : z 3 = z4 := by rw [hzz]; rfl
    have zz4 : z 4 = z5 := by rw [hzz]; rfl
    have H0 : cWz M (fedZ (wZ W) z N (4 * 0)) := by rw [show 4 * 0 = 0 from rfl, f0']; exact HZc
    obtain ⟨M1, r1, S1, f1, H1⟩ := c_feedNumber g (i := 0) (by decide) (by rw [zz0]; exact ⟨a1, a2⟩) S H0 598
    obtain ⟨M2, r2, S2, f2, H2⟩ := c_feedNumber g (i := 1) (by decide) (by rw [zz1]; exact ⟨b1, b2⟩) S1 H1 598
    obtain ⟨M3, r3, S3, f3, H3⟩ := c_feedNumber g (i := 2) (by decide) (by rw [zz2]; exact ⟨c1, c2⟩) S2 H2 598
    obtain ⟨M4, r4, S4, f4, H4⟩ := c_feedNumber g (i := 3) (by decide) (by rw [zz3]; exact ⟨d1, d2⟩) S3 H3 598
    obtain ⟨M5, r5, S5, f5, H5⟩ := c_feedNumber g (i := 4) (by decide) (by rw [zz4]; exact ⟨e1, e2⟩) S4 H4 598
    rw [zz0] at r1
    rw [zz1] at r2
    rw [zz2] at r3
    rw [zz3] at r4
    rw [zz4] at r5
    have f15 := fr_tr f1 (fr_tr f2 (fr_tr f3 (fr_tr f4 f5)))
    have HM5 := mWo_mv HM B1 (fr_mono f15 (fun b k h => sM_lt h.2))
    have l5 : am_I M5 2 2 = am_i ((N + 20 : Nat) : Int) := by have := H5.2.1; rw [fedZ_1] at this; exact this
    have hz : ∀ i, i < 5 → -2147483648 ≤ z i ∧ z i < 2147483648 := fun i hi => by
      rcases i with _ | _ | _ | _ | _ | i
      · rw [zz0]; exact ⟨a1, a2⟩
      · rw [show (0 + 1 : Nat) = 1 from rfl, zz1]; exact ⟨b1, b2⟩
      · rw [show (0 + 1 + 1 : Nat) = 2 from rfl, zz2]; exact ⟨c1, c2⟩
      · rw [show (0 + 1 + 1 + 1 : Nat) = 3 from rfl, zz3]; exact ⟨d1, d2⟩
      · rw [show (0 + 1 + 1 + 1 + 1 : Nat) = 4 from rfl, zz4]; exact ⟨e1, e2⟩
      · omega
    have key : ∀ m n : Nat, n + m = 20 → ∀ (M6 : am_M) (v7 : Value), am_Sh L q M6 → fr (fun b k => (sM b k ∨ zM b k) ∧ 187 ≤ b) M5 M6 → mWz M6 (fedZ (wZ W) z N n) →
        ∃ M', am_ev 128 599 28 [.ref 187, .int (am_i z1), .int (am_i z2), .int (am_i z3), .int (am_i z4), .int (am_i z5), .int (am_i n), v7] [] M6 = some (some (.int (am_i ((N + 20 : Nat) : Int))), M') ∧ am_Sh L q M' ∧ fr (fun b k => (sM b k ∨ zM b k) ∧ 187 ≤ b) M5 M' ∧ mWz M' (fedZ (wZ W) z N 20) := by
      intro m
      induction m with
      | zero =>
        intro n hn M6 v7 S6 f6 H6
        have : n = 20 := by omega
        subst this
        refine ⟨M6, ?_, S6, f6, H6⟩
        have e2 := H6.2.1
        rw [fedZ_1] at e2
        rw [t128_28, am_br_ge (by omega) (by omega) (by omega) (by omega), if_pos (by omega), am_ob_p (kk_187 S6), e2]
      | succ m ih =>
        intro n hn M6 v7 S6 f6 H6
        have e2 := H6.2.1
        rw [fedZ_1] at e2
        have hzn := hz (n / 4) (by omega)
        obtain ⟨M', r, hR⟩ := ih (n + 1) (by omega) _ (.int (am_i (z (n / 4)))) ((S6.sI 188 (N + n) (am_i (fbyte z n))).sI 187 1 (am_i ((N + (n + 1) : Nat) : Int))) (fr_tr f6 fr_188) (mWz_fed H6)
        refine ⟨M', ?_, hR⟩
        have e81 : am_ev 128 599 81 [.ref 187, .int (am_i z1), .int (am_i z2), .int (am_i z3), .int (am_i z4), .int (am_i z5), .int (am_i n), v7] [.int (am_i (z (n / 4)))] M6 = some (some (.int (am_i ((N + 20 : Nat) : Int))), M') := by
          have u : ((N + n : Nat) : Int).toNat = N + n := by omega
          have es : 8 * (3 - (n : Int) % 4) = ((24 - 8 * (n % 4) : Nat) : Int) := by omega
          have eb : z (n / 4) / ((2 ^ (24 - 8 * (n % 4)) : Nat) : Int) % 256 = fbyte z n := rfl
          rw [t128_81, am_ob_p (kk_187 S6), rr_187_0 S6, am_gr_p, am_ob_p (kk_187 S6), am_if_f (by decide), e2, am_iw_p (kk_188 S6) (by omega) (by omega) (by omega) (by omega), am_i_ix (by omega) (by omega), u, am_i_rem (by omega) (by omega) (by omega) (by omega), am_i_sub, am_i_mul, es, shr_i hzn.1 hzn.2 (by omega), and_255, eb]
          simp only [am_lt]
          rw [am_ob_p (kk_187 (S6.sI 188 _ _)), am_ob_p (kk_187 (S6.sI 188 _ _)), am_I_ne1 (by omega), e2, am_i_add, am_i_add, show ((N + n : Nat) : Int) + 1 = ((N + (n + 1) : Nat) : Int) by omega]
          exact r
        rw [t128_28, am_br_ge (by omega) (by omega) (by omega) (by omega), if_neg (by omega), am_br_ge (by omega) (by omega) (by omega) (by omega)]
        by_cases g4 : (4 : Int) ≤ n
        · rw [if_pos g4, am_br_ge (by omega) (by omega) (by omega) (by omega)]
          by_cases g8 : (8 : Int) ≤ n
          · rw [if_pos g8, am_br_ge (by omega) (by omega) (by omega) (by omega)]
            by_cases g12 : (12 : Int) ≤ n
            · rw [if_pos g12, am_br_ge (by omega) (by omega) (by omega) (by omega)]
              by_cases g16 : (16 : Int) ≤ n
              · rw [if_pos g16]
                rw [show n / 4 = 4 by omega, zz4] at e81
                exact e81
              · rw [if_neg g16]
                rw [show n / 4 = 3 by omega, zz3] at e81
                exact e81
            · rw [if_neg g12]
              rw [show n / 4 = 2 by omega, zz2] at e81
              exact e81
          · rw [if_neg g8]
            rw [show n / 4 = 1 by omega, zz1] at e81
            exact e81
        · rw [if_neg g4]
          rw [show n / 4 = 0 by omega, zz0] at e81
          exact e81
    have l1 : am_I M5 187 1 = am_i N := by rw [← hN]; exact HM5.2.2.2.2.2.2.1.2.1
    obtain ⟨M6, r6, S6, f6, H6⟩ := key 20 0 (by omega) M5 .null S5 (fr_rfl _ _) (by rw [f0']; exact HM5.2.2.2.2.2.2.1)
    refine Call_Z (v := .int (am_i ((N + 20 : Nat) : Int))) (Z := fedZ (wZ W) z N 20) (iv _) hq HC HM B h0 ?_ f15 H5 hq rfl ?_ f6 H6 (zB_fed BZ z g) S6
    · rw [t2, am_ob_p (kk_2 S), l2, am_i_add, am_br_le (by omega) (by omega) (by omega) (by omega), if_pos (by omega), am_ob_p (kk_2 S), r1, am_bV_p, am_ob_p (kk_2 S1), r2, am_bV_p, am_ob_p (kk_2 S2), r3, am_bV_p, am_ob_p (kk_2 S3), r4, am_bV_p, am_ob_p (kk_2 S4), r5, am_bV_p, am_ob_p (kk_2 S5), l5]
    · rw [t128, am_ob_p (kk_187 S5), l1, am_i_add, am_br_le (by omega) (by omega) (by omega) (by omega), if_pos (by omega)]
      exact r6
  · refine Call_no 0 (v := .int (am_i (-1))) (iv _) hq S HC HM B h0 ?_ (fun M1 S1 HM1 => ?_)
    · rw [t2, am_ob_p (kk_2 S), l2, am_i_add, am_br_le (by omega) (by omega) (by omega) (by omega), if_neg (by omega), am_ob_p (kk_2 S), show (am_i 0) = am_i ((0 : Nat) : Int) from rfl, c_refuse S HZc (n := 0) (by decide), am_bI_p]
    · have l1 : am_I M1 187 1 = am_i N := by rw [← hN]; exact HM1.2.2.2.2.2.2.1.2.1
      have k9 := HM1.2.2.2.2.2.2.1.2.2.2.2.2.2.2.2.1 0 (by decide)
      rw [t128, am_ob_p (kk_187 S1), l1, am_i_add, am_br_le (by omega) (by omega) (by omega) (by omega), if_neg (by omega)]
      simp (disch := omega) only [am_ob_p (kk_187 S1), rr_187_9 S1, am_ix_p (kk_189 S1), am_iw_p (kk_189 S1), am_gr_p, am_i_ix, Int.toNat_zero, Int.toNat_one, Int.toNat_natCast, Int.reduceToNat, am_lt, am_i_add, am_i_sub, am_i_mul, k9]
theorem call_end {L : Nat} {xs : Nat → Int32} {M : am_M} {W : am_Wo} {b : Nat} (R : Rel L xs M W b) (x : Int32) : Call L xs 3 129 [.int x] M b := by
  obtain ⟨q, hq, S, HC, HM, B, h0⟩ := R
  obtain ⟨z, rfl, z1, z2⟩ := int_of x
  have B1 := B.1
  have BZ := B.2.2.2.2.2.2
  have HZc := HC.2.2.2.2.2.2.1
  have bN := BZ.2.1
  have l2 : am_I M 2 2 = am_i (wZ W 1 0) := HZc.2.1
  by_cases g : 0 ≤ z ∧ z ≤ wZ W 1 0
  · have e : ∀ a b, a ≠ 1 → uZ (wZ W) 1 0 z a b = wZ W a b := fun a b h => uZ_ne (fun g => h g.1)
    have f1 : fr (fun b k => (sC q b k ∨ zC b k) ∧ b < 187) M (am_sI M 2 2 (am_i z)) := fr_22
    have HM1 := mWo_mv HM B1 (fr_mono f1 (fun b k h => sM_lt h.2))
    have S1 := S.sI 2 2 (am_i z)
    have l1 : am_I (am_sI M 2 2 (am_i z)) 187 1 = am_i (wZ W 1 0) := HM1.2.2.2.2.2.2.1.2.1
    refine Call_Z (v := .int (am_i 1)) (Z := uZ (wZ W) 1 0 z) (M2 := am_sI (am_sI M 2 2 (am_i z)) 187 1 (am_i z)) (iv _) hq HC HM B h0 ?_ f1 ?_ hq rfl ?_ fr_1871 ?_ ?_ (S1.sI _ _ _)
    · rw [t3, am_br_lt (by omega) (by omega) (by omega) (by omega), if_neg (by omega), am_ob_p (kk_2 S), l2, am_br_le (by omega) (by omega) (by omega) (by omega), if_pos g.2, am_ob_p (kk_2 S), am_lt, am_tr_1]
    · obtain ⟨k1, k2, k3, k4, k5, k6, k7, k8, k9, k10⟩ := HZc
      refine ⟨fun k hk => ?_, ?_, ?_, ?_, fun k hk => ?_, ?_, fun k hk => ?_, ?_, fun k hk => ?_, ?_⟩
      · rw [am_I_ne1 (by omega), e _ _ (by decide)]; exact k1 k hk
      · rw [am_I_same, uZ_eq]
      · rw [am_I_ne1 (by omega), e _ _ (by decide)]; exact k3
      · rw [am_I_ne1 (by omega), e _ _ (by decide)]; exact k4
      · rw [am_I_ne1 (by omega), e _ _ (by decide)]; exact k5 k hk
      · rw [am_I_ne2 (by omega), e _ _ (by decide)]; exact k6
      · rw [am_I_ne1 (by omega), e _ _ (by decide)]; exact k7 k hk
      · rw [am_I_ne2 (by omega), e _ _ (by decide)]; exact k8
      · rw [am_I_ne1 (by omega), e _ _ (by decide)]; exact k9 k hk
      · rw [am_I_ne2 (by omega), e _ _ (by decide)]; exact k10
    · rw [t129, am_br_lt (by omega) (by omega) (by omega) (by omega), if_neg (by omega), am_ob_p (kk_187 S1), l1, am_br_le (by omega) (by omega) (by omega) (by omega), if_pos g.2, am_ob_p (kk_187 S1), am_lt, am_tr_1]
    · obtain ⟨k1, k2, k3, k4, k5, k6, k7, k8, k9, k10⟩ := HM1.2.2.2.2.2.2.1
      refine ⟨fun k hk => ?_, ?_, ?_, ?_, fun k hk => ?_, ?_, fun k hk => ?_, ?_, fun k hk => ?_, ?_⟩
      · rw [am_I_ne1 (by omega), e _ _ (by decide)]; exact k1 k hk
      · rw [am_I_same, uZ_eq]
      · rw [am_I_ne2 (by omega), e _ _ (by decide)]; exact k3
      · rw [am_I_ne2 (by omega), e _ _ (by decide)]; exact k4
      · rw [am_I_ne1 (by omega), e _ _ (by decide)]; exact k5 k hk
      · rw [am_I_ne2 (by omega), e _ _ (by decide)]; exact k6
      · rw [am_I_ne1 (by omega), e _ _ (by decide)]; exact k7 k hk
      · rw [am_I_ne2 (by omega), e _ _ (by decide)]; exact k8
      · rw [am_I_ne1 (by omega), e _ _ (by decide)]; exact k9 k hk
      · rw [am_L_sI', e _ _ (by decide)]; exact k10
    · obtain ⟨b1, b2, b3, b4, b5, b6⟩ := BZ
      refine ⟨fun k => by rw [e _ _ (by decide)]; exact b1 k, by rw [uZ_eq]; omega, by rw [e _ _ (by decide)]; exact b3, fun r hr => ?_, by rw [e _ _ (by decide)]; exact b5, by rw [e _ _ (by decide)]; exact b6⟩
      rw [e _ _ (by decide)] at hr
      rw [e _ _ (by decide), e _ _ (by decide), e _ _ (by decide)]
      exact b4 r hr
  · have er := c_refuse S HZc (n := 0) (by decide) 598
    refine Call_no 0 (v := .int (am_i 0)) (iv _) hq S HC HM B h0 ?_ (fun M1 S1 HM1 => ?_)
    · rw [t3, am_ob_p (kk_2 S), am_ob_p (kk_2 S), l2, am_ob_p (kk_2 S), show am_cl 37 598 [.ref 2, .int (am_i 0)] M = am_cl 37 598 [.ref 2, .int (am_i ((0 : Nat) : Int))] M from rfl, er, am_bI_p, am_tr_0, am_br_lt (by omega) (by omega) (by omega) (by omega)]
      by_cases g1 : z < 0
      · rw [if_pos g1]
      · rw [if_neg g1, am_br_le (by omega) (by omega) (by omega) (by omega), if_neg (by omega)]
    · have l1 : am_I M1 187 1 = am_i (wZ W 1 0) := HM1.2.2.2.2.2.2.1.2.1
      have k9 := HM1.2.2.2.2.2.2.1.2.2.2.2.2.2.2.2.1 0 (by decide)
      have e12 : am_ev 129 599 12 [.ref 187, .int (am_i z)] [] M1 = some (some (.int (am_i 0)), am_sI M1 189 0 (am_i (wZ W 7 0 + 1))) := by
        rw [t129_12]
        simp (disch := omega) only [am_ob_p (kk_187 S1), rr_187_9 S1, am_ix_p (kk_189 S1), am_iw_p (kk_189 S1), am_gr_p, am_i_ix, Int.toNat_zero, Int.toNat_one, Int.toNat_natCast, Int.reduceToNat, am_lt, am_i_add, am_i_sub, am_i_mul, k9, am_tr_0]
      rw [t129, am_br_lt (by omega) (by omega) (by omega) (by omega)]
      by_cases g1 : z < 0
      · rw [if_pos g1]; exact e12
      · rw [if_neg g1, am_ob_p (kk_187 S1), l1, am_br_le (by omega) (by omega) (by omega) (by omega), if_neg (by omega)]; exact e12
