/-! pressed, the call. -/
/-- the sets that fit: how many, in all of them, in any -/
def prL (W : am_Wo) (n : Nat) : Nat → Nat → Int32 → Int32 → Int32 → Int32 × Int32 × Int32
  | 0, _, c, a, o => (c, a, o)
  | m + 1, s, c, a, o => if asT W s n 0 = 1 then prL W n m (s + 1) (c + am_i 1) (a &&& am_i s) (o ||| am_i s) else prL W n m (s + 1) c a o
def prV (z : Int) (t : Int32 × Int32 × Int32) : Int32 := if z = 0 then t.1 else if z = 2 then t.2.2 else if t.1 = am_i 0 then am_i 0 else t.2.1
theorem am_br_ne0 (x : Int32) (t f : am_Q) : am_br .ne x (am_i 0) t f = if x = am_i 0 then f else t := by
  by_cases g : x = am_i 0
  · subst g
    rw [if_pos rfl, am_br_ne (by omega) (by omega) (by omega) (by omega), if_pos rfl]
  · rw [if_neg g]
    have h : x.toInt ≠ 0 := fun h => g (by rw [← am_i_of x, h])
    have e := am_i_of x
    rw [← e, am_br_ne (Int32.le_toInt x) (Int32.toInt_lt x) (by omega) (by omega), if_neg h]
theorem call_pressed {L : Nat} {xs : Nat → Int32} {M : am_M} {W : am_Wo} {b : Nat} (R : Rel L xs M W b) (hb : b < 1000000000) (x : Int32) : Call L xs 25 221 [.int x] M b := by
  obtain ⟨q, hq, S, HC, HM, B, h0⟩ := R
  obtain ⟨z, rfl, z1, z2⟩ := int_of x
  have hh := qok_h hq
  have B1 := B.1
  have BA := B.2.2.2.1
  have BZ := B.2.2.2.2.2.2
  have bT := aB_t BA
  have b3 := BZ.2.2.1
  obtain ⟨hPP, hP5⟩ := hB_P B1
  have h32 : 2 ^ nP (wX W) ≤ 2 ^ 5 := Nat.pow_le_pow_right (by decide) hP5
  have h0P : (1 : Int) ≤ ((2 ^ nP (wX W) : Nat) : Int) := by have : 0 < 2 ^ nP (wX W) := Nat.pow_pos (by decide); omega
  have e2 := HC.1.1 2 (by decide)
  have esh := shl_1 hP5
  rw [hPP] at esh
  obtain ⟨R, hR⟩ : ∃ R : Nat, wZ W 4 0 = R := ⟨(wZ W 4 0).toNat, by omega⟩
  have hT := toldT_bd BZ R (by omega)
  obtain ⟨n, hn⟩ : ∃ n : Nat, toldT (wZ W) R = n := ⟨(toldT (wZ W) R).toNat, by omega⟩
  have rt := c_toldHours S HC.2.2.2.2.2.2.1 BZ hR 597
  rw [hn] at rt
  have rc := c_canPass S HC.2.2.2.1 BA (n := (n : Int)) (by omega) (by omega) (lo := 0) (hi := 24) (by decide) (by decide) (by decide) 598
  have cst : ∀ t : am_Q, am_cl 25 599 [.ref 2, .int (am_i z)] M = t → am_cl 25 599 [.ref 2, .int (am_i z)] M = t := fun t h => h
  have g235 : ∀ M1, mWo M1 W → am_I M1 187 65 = am_i R ∧ ∀ k, k < 48 → am_I M1 235 k = am_i (wZ W 3 k) := fun M1 H => ⟨by rw [H.2.2.2.2.2.2.1.2.2.2.2.2.1, hR], H.2.2.2.2.2.2.1.2.2.2.2.1⟩
  have hin := isin_01 z 0 2
  by_cases g : 0 ≤ z ∧ z ≤ 2
  · have hi1 : isin z 0 2 = 1 := if_pos g
    by_cases g2 : pas (wA W) n 0 24 = 1
    · have hn2 : wA W 0 0 0 + n ≤ 23999 := by
        unfold pas at g2
        split at g2 <;> omega
      -- the class
      have clp : ∀ m s : Nat, s + m = 2 ^ nP (wX W) → ∀ (M1 : am_M) (q1 : am_Pq) (c a o : Int32), qok q1 → q1.2.2.1 = q.2.2.1 → am_Sh L q1 M1 → cWo q1 M1 W b → fr pB M M1 →
          ∃ M2 q2, am_ev 25 599 56 [.ref 2, .int (am_i z), .int (am_i n), .int (am_i ((2 ^ nP (wX W) : Nat) : Int)), .int c, .int a, .int o, .int (am_i s)] [] M1 = some (some (.int (prV z (prL W n m s c a o))), M2) ∧ qok q2 ∧ q2.2.2.1 = q.2.2.1 ∧ am_Sh L q2 M2 ∧ fr pB M M2 := by
        intro m
        induction m with
        | zero =>
          intro s hs M1 q1 c a o hq1 hqq S1 HC1 f1
          refine ⟨M1, q1, ?_, hq1, hqq, S1, f1⟩
          rw [t25_56, am_br_ge (by omega) (by omega) (by omega) (by omega), if_pos (by omega), am_br_ne (by omega) (by omega) (by omega) (by omega), am_br_ne (by omega) (by omega) (by omega) (by omega), am_br_ne0]
          show (_ : am_Q) = some (some (Value.int (if z = 0 then c else if z = 2 then o else if c = am_i 0 then am_i 0 else a)), M1)
          by_cases k1 : z = 0
          · rw [if_pos k1, if_pos k1]
          · rw [if_neg k1, if_neg k1]
            by_cases k2 : z = 2
            · rw [if_pos k2, if_pos k2]
            · rw [if_neg k2, if_neg k2]
              by_cases k3 : c = am_i 0
              · rw [if_pos k3, if_pos k3]
              · rw [if_neg k3, if_neg k3]
        | succ m ih =>
          intro s hs M1 q1 c a o hq1 hqq S1 HC1 f1
          obtain ⟨M2, r2, S2, f2⟩ := c_isAsTold hq1 S1 HC1 B hb (P := s) (by omega) (n := n) (by omega) hn2
          have HC2 := cWo_mv HC1 hq1 B1 (q' := (q1.1, q1.2.1, q1.2.2.1, q1.2.2.1)) rfl (fr_mono f2 (fun b k h => (pB_s h).1))
          have h01 := asT_01 W s n 0
          have ek : prL W n (m + 1) s c a o = if asT W s n 0 = 1 then prL W n m (s + 1) (c + am_i 1) (a &&& am_i s) (o ||| am_i s) else prL W n m (s + 1) c a o := rfl
          rw [t25_56, am_br_ge (by omega) (by omega) (by omega) (by omega), if_neg (by omega), am_ob_p (kk_2 S1), r2, am_bI_p, am_br_eq (by omega) (by omega) (by omega) (by omega), am_i_add, ek]
          rcases h01 with g4 | g4
          · rw [if_p0 g4, if_neg (by omega)]
            exact ih (s + 1) (by omega) M2 _ c a o (qok_a hq1) hqq S2 HC2 (fr_tr f1 f2)
          · rw [if_p1 g4, if_pos g4]
            exact ih (s + 1) (by omega) M2 _ _ _ _ (qok_a hq1) hqq S2 HC2 (fr_tr f1 f2)
      obtain ⟨M1, q1, s1, hq1, hqq1, S1, f1⟩ := clp (2 ^ nP (wX W)) 0 (by omega) M q (am_i 0) (am_i ((2 ^ nP (wX W) : Nat) : Int) - am_i 1) (am_i 0) hq rfl S HC (fr_rfl _ _)
      have HM1 := mWo_mv HM B1 (M' := M1) (fr_mono f1 (fun b k h => sM_lt (by unfold pB at h; omega)))
      obtain ⟨j65, j235⟩ := g235 M1 HM1
      obtain ⟨M2, s2, f2, T2⟩ := mTh_aside S1 HM1 B 598
      -- the reference
      have mlp : ∀ m s : Nat, s + m = 2 ^ nP (wX W) → ∀ (M3 : am_M) (c a o : Int32), mTh L q1 M3 W (wA W) → fr pR M1 M3 →
          ∃ M4, am_ev 221 599 58 [.ref 187, .int (am_i z), .int c, .int a, .int o, .int (am_i s)] [] M3 = some (some (.int (prV z (prL W n m s c a o))), M4) ∧ am_Sh L q1 M4 ∧ fr pR M1 M4 ∧ mA M4 (wA W) ∧ am_I M4 187 60 = am_i 0 := by
        intro m
        induction m with
        | zero =>
          intro s hs M3 c a o T3 f3
          obtain ⟨M4, s4, f4, S4, HA4, h60⟩ := mTh_back T3 597
          refine ⟨M4, ?_, S4, fr_tr f3 (fr_mono f4 (fun b k h => pR_back h)), HA4, h60⟩
          rw [t221_58, am_ob_p (kk_187 T3.1), m_personMany T3.1 T3.2.1, am_bI_p, esh, am_br_ge (by omega) (by omega) (by omega) (by omega), if_pos (by omega), am_ob_p (kk_187 T3.1), s4, am_bV_p, am_br_ne (by omega) (by omega) (by omega) (by omega), am_br_ne (by omega) (by omega) (by omega) (by omega), am_br_ne0]
          show (_ : am_Q) = some (some (Value.int (if z = 0 then c else if z = 2 then o else if c = am_i 0 then am_i 0 else a)), M4)
          by_cases k1 : z = 0
          · rw [if_pos k1, if_pos k1]
          · rw [if_neg k1, if_neg k1]
            by_cases k2 : z = 1
            · rw [if_pos k2, if_neg (show ¬ z = 2 by omega)]
              by_cases k3 : c = am_i 0
              · rw [if_pos k3, if_pos k3]
              · rw [if_neg k3, if_neg k3]
            · rw [if_neg k2, if_pos (show z = 2 by omega)]
        | succ m ih =>
          intro s hs M3 c a o T3 f3
          have g65 : am_I M3 187 65 = am_i R := by rw [(f3 187 65 (by unfold pR sM; omega)).1]; exact j65
          have gg : ∀ k, k < 48 → am_I M3 235 k = am_i (wZ W 3 k) := fun k hk => by rw [(f3 235 k (by unfold pR sM; omega)).1]; exact j235 k hk
          obtain ⟨M4, s4, T4, f4⟩ := m_isAsTold T3 B hR g65 gg (P := s) (by omega) hn hn2
          have h01 := asT_01 W s n 0
          have ek : prL W n (m + 1) s c a o = if asT W s n 0 = 1 then prL W n m (s + 1) (c + am_i 1) (a &&& am_i s) (o ||| am_i s) else prL W n m (s + 1) c a o := rfl
          rw [t221_58, am_ob_p (kk_187 T3.1), m_personMany T3.1 T3.2.1, am_bI_p, esh, am_br_ge (by omega) (by omega) (by omega) (by omega), if_neg (by omega), am_ob_p (kk_187 T3.1), s4, am_bI_p, am_br_ne (by omega) (by omega) (by omega) (by omega), am_i_add, ek]
          rcases h01 with g4 | g4
          · rw [if_p0 g4, if_neg (by omega)]
            exact ih (s + 1) (by omega) M4 c a o T4 (fr_tr f3 f4)
          · rw [if_p1 g4, if_pos g4]
            exact ih (s + 1) (by omega) M4 _ _ _ T4 (fr_tr f3 f4)
      obtain ⟨M4, s4, S4, f4, HA4, h60⟩ := mlp (2 ^ nP (wX W)) 0 (by omega) M2 (am_i 0) (am_i ((2 ^ nP (wX W) : Nat) : Int) - am_i 1) (am_i 0) T2 f2
      have e37 : ∀ v2 v3 v4 v5 : Value, am_ev 221 599 37 [.ref 187, .int (am_i z), v2, v3, v4, v5] [] M1 = am_ev 221 599 58 [.ref 187, .int (am_i z), .int (am_i 0), .int (am_i ((2 ^ nP (wX W) : Nat) : Int) - am_i 1), .int (am_i 0), .int (am_i ((0 : Nat) : Int))] [] M2 := by
        intro v2 v3 v4 v5
        rw [t221_37, am_ob_p (kk_187 S1), m_personMany S1 HM1.1, am_bI_p, am_ob_p (kk_187 S1), s2, am_bV_p, esh]
        rfl
      refine Call_ahead (v := .int (prV z (prL W n (2 ^ nP (wX W)) 0 (am_i 0) (am_i ((2 ^ nP (wX W) : Nat) : Int) - am_i 1) (am_i 0)))) (M1 := M1) (M2 := M4) (iv _) hq HC HM B h0 ?_ (fr_mono f1 (fun b k h => pB_s h)) hq1 hqq1 ?_ f4 HA4 h60 S4
      · rw [t25, am_ob_p (kk_2 S), rt, am_bI_p, am_br_lt (by omega) (by omega) (by omega) (by omega), if_neg (by omega), am_br_gt (by omega) (by omega) (by omega) (by omega), if_neg (by omega), am_ob_p (kk_2 S), rc, am_bI_p, am_br_ne (by omega) (by omega) (by omega) (by omega), if_p1 g2, am_ob_p (kk_2 S), rr_2_3 S, am_gr_p, am_ob_p (kk_63 S), rr_63_0 S, am_gr_p, am_ob_p (H_k0 S hh), H_r0_0 S hh, am_gr_p, am_ix_p (H_k1 S hh) (by omega) (by omega) (by omega), am_i_ix (by omega) (by omega), show (2 : Int).toNat = 2 from rfl, e2, esh]
        exact s1
      · have el := m_lastHour S1 BZ hR j65 j235 598
        rw [hn] at el
        have ra := m_isAhead S1 HM1.2.2.2.1 BA (n := (n : Int)) (by omega) (by omega) (lo := 0) (hi := 24) (by decide) (by decide) (by decide) 597
        rw [t221, am_i2l (by omega) (by omega), m_isIn (by omega) (by omega) (by omega) (by omega) (by omega) (by omega), am_bI_p, hi1, am_br_eq (by omega) (by omega) (by omega) (by omega), if_neg (by decide), am_ob_p (kk_187 S1), j65, am_br_le (by omega) (by omega) (by omega) (by omega), e37]
        by_cases g5 : (R : Int) ≤ 0
        · rw [if_pos g5]
          exact s4
        · rw [if_neg g5, am_ob_p (kk_187 S1), el, am_bI_p, am_ob_p (kk_187 S1), am_i_add, show (n : Int) - 1 + 1 = n by omega, ra, am_bI_p, am_br_ne (by omega) (by omega) (by omega) (by omega), if_p1 g2]
          exact (e37 _ _ _ _).trans s4
    · have g2' := pas_0 g2
      have hR0 : ¬ (R : Int) ≤ 0 := fun h => g2 (by
        have : R = 0 := by omega
        subst this
        have : (0 : Int) = n := hn
        unfold pas
        exact if_pos (by omega))
      obtain ⟨j65, j235⟩ := g235 M HM
      have el := m_lastHour S BZ hR j65 j235 598
      rw [hn] at el
      have ra := m_isAhead S HM.2.2.2.1 BA (n := (n : Int)) (by omega) (by omega) (lo := 0) (hi := 24) (by decide) (by decide) (by decide) 597
      refine Call_same (v := .int (am_i (-1))) (iv _) hq HC HM B h0 S ?_ ?_
      · rw [t25, am_ob_p (kk_2 S), rt, am_bI_p, am_br_lt (by omega) (by omega) (by omega) (by omega), if_neg (by omega), am_br_gt (by omega) (by omega) (by omega) (by omega), if_neg (by omega), am_ob_p (kk_2 S), rc, am_bI_p, am_br_ne (by omega) (by omega) (by omega) (by omega), if_p0 g2']
      · rw [t221, am_i2l (by omega) (by omega), m_isIn (by omega) (by omega) (by omega) (by omega) (by omega) (by omega), am_bI_p, hi1, am_br_eq (by omega) (by omega) (by omega) (by omega), if_neg (by decide), am_ob_p (kk_187 S), j65, am_br_le (by omega) (by omega) (by omega) (by omega), if_neg hR0, am_ob_p (kk_187 S), el, am_bI_p, am_ob_p (kk_187 S), am_i_add, show (n : Int) - 1 + 1 = n by omega, ra, am_bI_p, am_br_ne (by omega) (by omega) (by omega) (by omega), if_p0 g2']
  · have hi0 : isin z 0 2 = 0 := if_neg g
    refine Call_same (v := .int (am_i (-1))) (iv _) hq HC HM B h0 S ?_ ?_
    · rw [t25, am_ob_p (kk_2 S), rt, am_bI_p, am_br_lt (by omega) (by omega) (by omega) (by omega)]
      by_cases g4 : z < 0
      · rw [if_pos g4]
      · rw [if_neg g4, am_br_gt (by omega) (by omega) (by omega) (by omega), if_pos (by omega)]
    · rw [t221, am_i2l (by omega) (by omega), m_isIn (by omega) (by omega) (by omega) (by omega) (by omega) (by omega), am_bI_p, hi0, am_br_eq (by omega) (by omega) (by omega) (by omega), if_pos rfl]
