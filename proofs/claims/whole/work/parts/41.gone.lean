/-! When a kind has gone; what is sown. -/
theorem hour_1 (X : am_X) (G : am_Gf) (s : am_Hs) : (hour X G s).1 1 0 0 = s.1 1 0 0 := by
  have h : ∀ n, (hPs X G (s.1, q0 s.2.1, s.2.2) n).1 1 0 0 = s.1 1 0 0 := by
    intro n
    induction n with
    | zero => rfl
    | succ n ih => exact ((hP_time X G n _).2 0).trans ih
  show tick (fadeA X G (hPs X G (s.1, q0 s.2.1, s.2.2) (nP X)).1) 1 0 0 = _
  unfold tick
  rw [uA_ne (by omega), fadeA_ne (by omega)]
  exact h _
theorem hours_1 (X : am_X) (G : am_Gf) (s : am_Hs) : ∀ n, (hours X G s n).1 1 0 0 = s.1 1 0 0
  | 0 => rfl
  | n + 1 => (hour_1 X G _).trans (hours_1 X G s n)
theorem prof_congr {A A' : am_A} (h : A 1 0 0 = A' 1 0 0) (p : Nat) : prof A p = prof A' p := by unfold prof; rw [prs_congr h]
def gonek (X : am_X) (G : am_Gf) (q k : Nat) : Nat → Nat → am_Hs → Int
  | 0, n, s => if s.1 2 q k = 0 then (n : Int) else -1
  | m + 1, n, s => if s.1 2 q k = 0 then (n : Int) else gonek X G q k m (n + 1) (hour X G s)
theorem call_gone {L : Nat} {xs : Nat → Int32} {M : am_M} {W : am_Wo} {b : Nat} (R : Rel L xs M W b) (hb : b < 1000000000) (x y : Int32) : Call L xs 19 210 [.int x, .int y] M b := by
  obtain ⟨q, hq, S, HC, HM, B, h0⟩ := R
  obtain ⟨z, rfl, z1, z2⟩ := int_of x
  obtain ⟨w, rfl, w1, w2⟩ := int_of y
  have hh := qok_h hq
  have hh' : q.2.2.1 = 4 ∨ q.2.2.1 = 38 := hh
  have B1 := B.1
  have BA := B.2.2.2.1
  have hP5 := hB_P B1
  have hK6 := hB_K B1
  have bp := aB_p BA
  have bt := aB_t BA
  have c75 : isC 75 := Or.inr rfl
  have b0 := is1_01 (wX W) 2 z
  have b1 := is1_01 (wX W) 0 w
  have r1 := c_isP S hh HC.1 B1 z1 z2 598
  have r3 := c_isK S hh HC.1 B1 w1 w2 598
  by_cases g : is1 (wX W) 2 z = 1
  · by_cases g2 : is1 (wX W) 0 w = 1
    · obtain ⟨p, rfl, hp⟩ := is1_ex g
      obtain ⟨k, rfl, hk⟩ := is1_ex g2
      have hk6 : k < 6 := by omega
      have hp6 : prof (wA W) p < 6 := prof_lt _ (by omega)
      obtain ⟨t, ht⟩ : ∃ t : Nat, (if 23999 - wA W 0 0 0 < 72 then 23999 - wA W 0 0 0 else 72) = (t : Int) := ⟨(if 23999 - wA W 0 0 0 < 72 then 23999 - wA W 0 0 0 else 72).toNat, by split <;> omega⟩
      have ht2 : (t : Int) ≤ 72 ∧ (t : Int) ≤ 23999 - wA W 0 0 0 ∧ (t = 72 ∨ (t : Int) = 23999 - wA W 0 0 0) := by split at ht <;> omega
      obtain ⟨M1, s1, S1, f1, HA1, HK1, HQ1⟩ := c_lookAhead S hh HC.1 HC.2.2.1 HC.2.2.2.1 HC.2.2.2.2.1 (by omega) B1 B.2.2.1 BA bp.1 bp.2 (n := 0) (by omega) (by omega) 592
      rw [aP_self] at HA1 HK1 HQ1
      have HC1 := cWo_mv HC hq B1 (q' := (q.1, q.2.1, q.2.2.1, q.2.2.1)) rfl (fr_mono f1 (fun b k h => (pB_s h).1))
      have u : ((prof (wA W) p : Int) * 6 + (k : Int)).toNat = 6 * prof (wA W) p + k := by omega
      -- the class
      have clp : ∀ m n : Nat, n + m = t → ∀ (M2 : am_M) (v1 v2 : Value), am_Sh L (q.1, q.2.1, q.2.2.1, q.2.2.1) M2 → fr pB M M2 → cA M2 76 (hours (wX W) (wG W) (wA W, qz, wK W) n).1 → cK M2 76 (hours (wX W) (wG W) (wA W, qz, wK W) n).2.2 (b + 5 * n) → cQ M2 75 (hours (wX W) (wG W) (wA W, qz, wK W) n).2.1 →
          ∃ M3, am_ev 19 599 76 [.ref 2, v1, v2, .int (am_i ((prof (wA W) p : Int) * 6 + (k : Int))), .int (am_i t), .int (am_i n)] [] M2 = some (some (.int (am_i (gonek (wX W) (wG W) (prof (wA W) p) k m n (hours (wX W) (wG W) (wA W, qz, wK W) n)))), M3) ∧ am_Sh L (q.1, q.2.1, q.2.2.1, q.2.2.1) M3 ∧ fr pB M M3 := by
        intro m
        induction m with
        | zero =>
          intro n hn M2 v1 v2 S2 f2 HA2 HK2 HQ2
          have hbd := (hours_bd (G := wG W) (s := (wA W, qz, wK W)) B1 BA n (by dsimp only; omega)).1
          have bta := aB_ta hbd hp6 hk6
          have e := HA2.2.2.1 _ hp6 k hk6
          refine ⟨M2, ?_, S2, f2⟩
          rw [t19_76, am_br_gt (by omega) (by omega) (by omega) (by omega), if_neg (by omega)]
          simp (disch := omega) only [am_ob_p (kk_2 S2), rr_2_4 S2, am_gr_p, am_ob_p (C_k0 S2 c75), am_ob_p (C_k1 S2 c75), am_ob_p (C_k8 S2 c75), am_ix_p (C_k2 S2 c75), am_iw_p (C_k2 S2 c75), am_ix_p (C_k3 S2 c75), am_iw_p (C_k3 S2 c75), am_ix_p (C_k4 S2 c75), am_iw_p (C_k4 S2 c75), am_ix_p (C_k5 S2 c75), am_iw_p (C_k5 S2 c75), am_ix_p (C_k6 S2 c75), am_iw_p (C_k6 S2 c75), am_ix_p (C_k7 S2 c75), am_iw_p (C_k7 S2 c75), am_ix_p (C_k9 S2 c75), am_iw_p (C_k9 S2 c75), am_ix_p (C_k10 S2 c75), am_iw_p (C_k10 S2 c75), am_ix_p (C_k11 S2 c75), am_iw_p (C_k11 S2 c75), C_r0_1 S2 c75, C_r0_2 S2 c75, C_r0_3 S2 c75, C_r0_5 S2 c75, C_r1_2 S2 c75, C_r1_3 S2 c75, C_r1_4 S2 c75, C_r1_5 S2 c75, C_r8_0 S2 c75, C_r8_1 S2 c75, C_r8_2 S2 c75, am_i_ix, u, e, am_br_ne]
          unfold gonek
          by_cases g3 : (hours (wX W) (wG W) (wA W, qz, wK W) n).1 2 (prof (wA W) p) k = 0
          · rw [if_pos g3, if_pos g3]
          · rw [if_neg g3, if_neg g3, am_br_ge (by omega) (by omega) (by omega) (by omega), if_pos (by omega), am_i_add, t19_76, am_br_gt (by omega) (by omega) (by omega) (by omega), if_pos (by omega)]
        | succ m ih =>
          intro n hn M2 v1 v2 S2 f2 HA2 HK2 HQ2
          have hbd := (hours_bd (G := wG W) (s := (wA W, qz, wK W)) B1 BA n (by dsimp only; omega)).1
          have bta := aB_ta hbd hp6 hk6
          have e := HA2.2.2.1 _ hp6 k hk6
          rw [t19_76, am_br_gt (by omega) (by omega) (by omega) (by omega), if_neg (by omega)]
          simp (disch := omega) only [am_ob_p (kk_2 S2), rr_2_4 S2, am_gr_p, am_ob_p (C_k0 S2 c75), am_ob_p (C_k1 S2 c75), am_ob_p (C_k8 S2 c75), am_ix_p (C_k2 S2 c75), am_iw_p (C_k2 S2 c75), am_ix_p (C_k3 S2 c75), am_iw_p (C_k3 S2 c75), am_ix_p (C_k4 S2 c75), am_iw_p (C_k4 S2 c75), am_ix_p (C_k5 S2 c75), am_iw_p (C_k5 S2 c75), am_ix_p (C_k6 S2 c75), am_iw_p (C_k6 S2 c75), am_ix_p (C_k7 S2 c75), am_iw_p (C_k7 S2 c75), am_ix_p (C_k9 S2 c75), am_iw_p (C_k9 S2 c75), am_ix_p (C_k10 S2 c75), am_iw_p (C_k10 S2 c75), am_ix_p (C_k11 S2 c75), am_iw_p (C_k11 S2 c75), C_r0_1 S2 c75, C_r0_2 S2 c75, C_r0_3 S2 c75, C_r0_5 S2 c75, C_r1_2 S2 c75, C_r1_3 S2 c75, C_r1_4 S2 c75, C_r1_5 S2 c75, C_r8_0 S2 c75, C_r8_1 S2 c75, C_r8_2 S2 c75, am_i_ix, u, e, am_br_ne]
          unfold gonek
          by_cases g3 : (hours (wX W) (wG W) (wA W, qz, wK W) n).1 2 (prof (wA W) p) k = 0
          · rw [if_pos g3, if_pos g3]
            exact ⟨M2, rfl, S2, f2⟩
          · rw [if_neg g3, if_neg g3, am_br_ge (by omega) (by omega) (by omega) (by omega), if_neg (by omega)]
            obtain ⟨M3, r3, S3, f3, Hs3⟩ := c_passHour (s := hours (wX W) (wG W) (wA W, qz, wK W) n) (h := q.2.2.1) S2 c75 hh (rr_75_0 S2) (cH_mv HC.1 B1 (fun b k h1 h2 => (f2 b k (by unfold pB; omega)).1)) (cG_mv HC.2.2.1 (fun b k h1 h2 => (f2 b k (by unfold pB; omega)).1)) HA2 HK2 HQ2 (by omega) B1 B.2.2.1 hbd 593
            obtain ⟨M4, r4, hR⟩ := ih (n + 1) (by omega) M3 v1 v2 S3 (fr_tr f2 (fr_mono f3 (fun b k h => h))) Hs3.1 Hs3.2.1 Hs3.2.2.1
            refine ⟨M4, ?_, hR⟩
            rw [r3, am_bI_p, am_i_add]
            exact r4
      obtain ⟨M2, s2, S2, f2⟩ := clp t 0 (by omega) M1 (.int (am_i (p : Int))) (.int (am_i (k : Int))) S1 f1 HA1 HK1 HQ1
      have HM2 := mWo_mv HM B1 (M' := M2) (fr_mono f2 (fun b k h => sM_lt (by unfold pB at h; omega)))
      obtain ⟨M3, s3, f3, T3⟩ := mTh_aside S2 HM2 B 598
      -- the reference
      obtain ⟨Qm, hQ0, hQ1⟩ : ∃ Qm : am_Qh, (∀ p, am_L M3 232 p = am_l (Qm 0 p)) ∧ (∀ p, am_I M3 233 p = am_i (Qm 1 p)) := ⟨fun i p => if i = 0 then (am_L M3 232 p).toInt else (am_I M3 233 p).toInt, fun p => (Int64.ofInt_toInt _).symm, fun p => (Int32.ofInt_toInt _).symm⟩
      have hsim : ∀ n, (hours (wX W) (wG W) (wA W, Qm, wK W) n).1 = (hours (wX W) (wG W) (wA W, qz, wK W) n).1 := fun n => (hours_sim (s := (wA W, Qm, wK W)) (s' := (wA W, qz, wK W)) rfl rfl n).1
      have mlp : ∀ m n : Nat, n + m = t → ∀ (M4 : am_M) (v4 : Value), mTh L (q.1, q.2.1, q.2.2.1, q.2.2.1) M4 W (hours (wX W) (wG W) (wA W, qz, wK W) n).1 → fr pR M2 M4 → mQ M4 0 (hours (wX W) (wG W) (wA W, Qm, wK W) n).2.1 →
          ∃ M5, am_ev 210 599 24 [.ref 187, .int (am_i p), .int (am_i k), .int (am_i n), v4] [] M4 = some (some (.int (am_i (gonek (wX W) (wG W) (prof (wA W) p) k m n (hours (wX W) (wG W) (wA W, qz, wK W) n)))), M5) ∧ am_Sh L (q.1, q.2.1, q.2.2.1, q.2.2.1) M5 ∧ fr pR M2 M5 ∧ mA M5 (wA W) ∧ am_I M5 187 60 = am_i 0 := by
        -- what ends it
        have fin : ∀ (n : Nat) (M4 : am_M) (v4 : Value) (res : Int), n ≤ t → mTh L (q.1, q.2.1, q.2.2.1, q.2.2.1) M4 W (hours (wX W) (wG W) (wA W, qz, wK W) n).1 → fr pR M2 M4 → res = (if (hours (wX W) (wG W) (wA W, qz, wK W) n).1 2 (prof (wA W) p) k = 0 then (n : Int) else -1) →
            ∃ M5, am_ev 210 599 69 [.ref 187, .int (am_i p), .int (am_i k), .int (am_i n), v4] [] M4 = some (some (.int (am_i res)), M5) ∧ am_Sh L (q.1, q.2.1, q.2.2.1, q.2.2.1) M5 ∧ fr pR M2 M5 ∧ mA M5 (wA W) ∧ am_I M5 187 60 = am_i 0 := by
          intro n M4 v4 res hn T4 f4 hres
          have hbd := (hours_bd (G := wG W) (s := (wA W, qz, wK W)) B1 BA n (by dsimp only; omega)).1
          have bta := aB_ta hbd hp6 hk6
          have hpr : prof (hours (wX W) (wG W) (wA W, qz, wK W) n).1 p = prof (wA W) p := prof_congr (hours_1 _ _ _ n) p
          have e := T4.2.2.2.1.2.2.1 _ hp6 k hk6
          have u2 : ((2 : Int) + 14 * (prof (wA W) p : Int) + (k : Int)).toNat = 2 + 14 * prof (wA W) p + k := by omega
          have rp := m_profileOf T4.1 T4.2.2.2.1 (show p < 5 by omega) 597
          rw [hpr] at rp
          obtain ⟨M5, s5, f5, S5, HA5, h60⟩ := mTh_back T4 597
          refine ⟨M5, ?_, S5, fr_tr f4 (fr_mono f5 (fun b k h => pR_back h)), HA5, h60⟩
          rw [t210_69, am_ob_p (kk_187 T4.1), rr_187_54 T4.1, am_gr_p, am_ob_p (kk_187 T4.1), rp, am_bI_p, am_ob_p (kk_187 T4.1), t171, am_bI_p]
          simp (disch := omega) only [am_ix_p (kk_229 T4.1), am_i_add, am_i_mul, am_i_ix, u2, e, am_br_ne]
          rw [hres]
          by_cases g3 : (hours (wX W) (wG W) (wA W, qz, wK W) n).1 2 (prof (wA W) p) k = 0
          · rw [if_pos g3, if_pos g3, t210_92, am_ob_p (kk_187 T4.1), s5, am_bV_p]
            simp (disch := omega) only [am_br_eq]
            rw [if_neg (by omega)]
          · rw [if_neg g3, if_neg g3, t210_92, am_ob_p (kk_187 T4.1), s5, am_bV_p]
            simp (disch := omega) only [am_br_eq]
            rw [if_pos trivial]
        intro m
        induction m with
        | zero =>
          intro n hn M4 v4 T4 f4 Q4
          have hbd := (hours_bd (G := wG W) (s := (wA W, qz, wK W)) B1 BA n (by dsimp only; omega))
          have bta := aB_ta hbd.1 hp6 hk6
          have hpr : prof (hours (wX W) (wG W) (wA W, qz, wK W) n).1 p = prof (wA W) p := prof_congr (hours_1 _ _ _ n) p
          have e := T4.2.2.2.1.2.2.1 _ hp6 k hk6
          have u2 : ((2 : Int) + 14 * (prof (wA W) p : Int) + (k : Int)).toNat = 2 + 14 * prof (wA W) p + k := by omega
          have rp := m_profileOf T4.1 T4.2.2.2.1 (show p < 5 by omega) 597
          rw [hpr] at rp
          have hf := fin n M4 v4 (gonek (wX W) (wG W) (prof (wA W) p) k 0 n (hours (wX W) (wG W) (wA W, qz, wK W) n)) (by omega) T4 f4 rfl
          rw [t210_24, am_ob_p (kk_187 T4.1), rr_187_54 T4.1, am_gr_p, am_ob_p (kk_187 T4.1), rp, am_bI_p, am_ob_p (kk_187 T4.1), t171, am_bI_p]
          simp (disch := omega) only [am_ix_p (kk_229 T4.1), am_i_add, am_i_mul, am_i_ix, u2, e, am_br_le, am_br_ge]
          by_cases g3 : (hours (wX W) (wG W) (wA W, qz, wK W) n).1 2 (prof (wA W) p) k = 0
          · rw [if_pos (by omega)]
            exact hf
          · rw [if_neg (by omega)]
            by_cases g4 : n = 72
            · rw [if_pos (by omega)]
              exact hf
            · have hpas : pas (hours (wX W) (wG W) (wA W, qz, wK W) n).1 1 1 1 = 0 := by
                unfold pas
                rw [if_neg]
                have := hbd.2
                dsimp only at this
                omega
              rw [if_neg (by omega), am_ob_p (kk_187 T4.1), m_isAhead T4.1 T4.2.2.2.1 hbd.1 (by omega) (by omega) (by decide) (by decide) (by decide), am_bI_p, hpas]
              simp (disch := omega) only [am_br_eq]
              rw [if_pos trivial]
              exact hf
        | succ m ih =>
          intro n hn M4 v4 T4 f4 Q4
          have hbd := (hours_bd (G := wG W) (s := (wA W, qz, wK W)) B1 BA n (by dsimp only; omega))
          have bta := aB_ta hbd.1 hp6 hk6
          have hpr : prof (hours (wX W) (wG W) (wA W, qz, wK W) n).1 p = prof (wA W) p := prof_congr (hours_1 _ _ _ n) p
          have e := T4.2.2.2.1.2.2.1 _ hp6 k hk6
          have u2 : ((2 : Int) + 14 * (prof (wA W) p : Int) + (k : Int)).toNat = 2 + 14 * prof (wA W) p + k := by omega
          have rp := m_profileOf T4.1 T4.2.2.2.1 (show p < 5 by omega) 597
          rw [hpr] at rp
          rw [t210_24, am_ob_p (kk_187 T4.1), rr_187_54 T4.1, am_gr_p, am_ob_p (kk_187 T4.1), rp, am_bI_p, am_ob_p (kk_187 T4.1), t171, am_bI_p]
          simp (disch := omega) only [am_ix_p (kk_229 T4.1), am_i_add, am_i_mul, am_i_ix, u2, e, am_br_le, am_br_ge]
          by_cases g3 : (hours (wX W) (wG W) (wA W, qz, wK W) n).1 2 (prof (wA W) p) k = 0
          · rw [if_pos (by omega)]
            exact fin n M4 v4 _ (by omega) T4 f4 (by unfold gonek; rw [if_pos g3, if_pos g3])
          · have hpas : pas (hours (wX W) (wG W) (wA W, qz, wK W) n).1 1 1 1 = 1 := by
              unfold pas
              rw [if_pos]
              have := hbd.2
              dsimp only at this
              omega
            rw [if_neg (by omega), if_neg (by omega), am_ob_p (kk_187 T4.1), m_isAhead T4.1 T4.2.2.2.1 hbd.1 (by omega) (by omega) (by decide) (by decide) (by decide), am_bI_p, hpas]
            simp (disch := omega) only [am_br_eq]
            rw [if_neg (by omega)]
            obtain ⟨S4, HX4, HG4, HA4, HS4, h60⟩ := T4
            obtain ⟨M5, r5, S5, f5, Hs5⟩ := m_hourGoes (th := 1) (s := hours (wX W) (wG W) (wA W, Qm, wK W) n) S4 HX4 HG4 (by rw [hsim]; exact HA4) (fun h => absurd h (by decide)) Q4 h60 (by decide) B1 B.2.2.1 (by rw [hsim]; exact hbd.1) 592
            obtain ⟨M6, r6, hR⟩ := ih (n + 1) (by omega) M5 v4 ⟨S5, mH_mv HX4 B1 (fun b k k1 k2 k3 => (f5 b k (by unfold pH; omega)).1), mG_mv HG4 (fun b k k1 k2 k3 k4 => (f5 b k (by unfold pH; omega)).1), (by rw [← hsim]; exact Hs5.1), mAs_mv HS4 (fun k => (f5 230 k (by unfold pH; omega)).1), Hs5.2.2.2⟩ (fr_tr f4 (fr_mono f5 (fun b k h => pH_s h))) ⟨Hs5.2.2.1.1, Hs5.2.2.1.2.1, fun p hp => absurd hp (by omega)⟩
            refine ⟨M6, ?_, hR⟩
            rw [am_ob_p (kk_187 S4), r5, am_bI_p]
            refine Eq.trans r6 ?_
            have eg : gonek (wX W) (wG W) (prof (wA W) p) k (m + 1) n (hours (wX W) (wG W) (wA W, qz, wK W) n) = gonek (wX W) (wG W) (prof (wA W) p) k m (n + 1) (hours (wX W) (wG W) (wA W, qz, wK W) (n + 1)) := if_neg g3
            rw [eg]
      obtain ⟨M4, s4, S4, f4, HA4, h60⟩ := mlp t 0 (by omega) M3 .null T3 f3 ⟨fun p hp => hQ0 p, fun p hp => hQ1 p, fun p hp => absurd hp (by omega)⟩
      have et1 := HC1.2.2.2.1.1
      have hmin := j_minI (M := M1) (a := 72) (b := 23999 - wA W 0 0 0) (by omega) (by omega) (by omega) (by omega) 598
      rw [ht] at hmin
      refine Call_ahead (v := .int (am_i (gonek (wX W) (wG W) (prof (wA W) p) k t 0 (wA W, qz, wK W)))) (M1 := M2) (M2 := M4) (iv _) hq HC HM B h0 ?_ (fr_mono f2 (fun b k h => pB_s h)) (qok_a hq) rfl ?_ f4 HA4 h60 S4
      · rw [t19, am_ob_p (kk_2 S), r1, am_bI_p, am_br_eq (by omega) (by omega) (by omega) (by omega), if_p1 g, am_ob_p (kk_2 S), r3, am_bI_p, am_br_ne (by omega) (by omega) (by omega) (by omega), if_p1 g2, am_ob_p (kk_2 S), rr_2_3 S, am_gr_p, am_ob_p (kk_63 S), rr_63_1 S, am_gr_p, am_ob_p (kk_64 S), am_ob_p (kk_2 S), HC.2.2.2.1.2.1, show (am_i 0) = am_i ((0 : Nat) : Int) from rfl, s1, am_bV_p, am_ob_p (kk_2 S1), rr_2_4 S1, am_gr_p, am_ob_p (kk_75 S1), rr_75_1 S1, am_gr_p, am_ob_p (kk_76 S1), c_profileOf S1 (kk_76 S1) HA1 (aB_p5 B1 BA) (show p < 5 by omega), am_bI_p, am_ob_p (kk_2 S1), rr_2_3 S1, am_gr_p, am_ob_p (kk_63 S1), rr_63_1 S1, am_gr_p, am_ob_p (kk_64 S1), et1, am_i_sub, hmin, am_bI_p, am_i_mul, am_i_add]
        exact s2
      · have r5 := m_isPerson S2 HM2.1 B1 z1 z2 597
        have r6 := m_isKind S2 HM2.1 B1 w1 w2 597
        rw [t210, am_ob_p (kk_187 S2), r5, am_bI_p, am_br_eq (by omega) (by omega) (by omega) (by omega), if_p1 g, am_ob_p (kk_187 S2), r6, am_bI_p, am_br_ne (by omega) (by omega) (by omega) (by omega), if_p1 g2, am_ob_p (kk_187 S2), s3, am_bV_p]
        exact s4
    · have g2' := is1_0 g2
      refine Call_same (v := .int (am_i (-1))) (iv _) hq HC HM B h0 S ?_ ?_
      · rw [t19, am_ob_p (kk_2 S), r1, am_bI_p, am_br_eq (by omega) (by omega) (by omega) (by omega), if_p1 g, am_ob_p (kk_2 S), r3, am_bI_p, am_br_ne (by omega) (by omega) (by omega) (by omega), if_p0 g2']
      · rw [t210, am_ob_p (kk_187 S), m_isPerson S HM.1 B1 z1 z2, am_bI_p, am_br_eq (by omega) (by omega) (by omega) (by omega), if_p1 g, am_ob_p (kk_187 S), m_isKind S HM.1 B1 w1 w2, am_bI_p, am_br_ne (by omega) (by omega) (by omega) (by omega), if_p0 g2']
  · have g' := is1_0 g
    refine Call_same (v := .int (am_i (-1))) (iv _) hq HC HM B h0 S ?_ ?_
    · rw [t19, am_ob_p (kk_2 S), r1, am_bI_p, am_br_eq (by omega) (by omega) (by omega) (by omega), if_p0 g']
    · rw [t210, am_ob_p (kk_187 S), m_isPerson S HM.1 B1 z1 z2, am_bI_p, am_br_eq (by omega) (by omega) (by omega) (by omega), if_p0 g']
