/-! Who, shares. -/
theorem if_p1' {x : Int} (h : ¬ x = 0) (t f : am_Q) : (if x = 0 then t else f) = f := if_neg h
def whoA (X : am_X) (f : Nat) (hr : Int) (n : Nat) : Int := sm (fun p => if fre X p hr = 1 then worth X p f + 1 else 0) n
def whoH (X : am_X) (f : Nat) (hr : Int) (person : Nat) (n : Nat) : Int := sm (fun p => if fre X p hr = 1 ∧ p = person then worth X p f + 1 else 0) n
theorem whoA_bd {X : am_X} (B : hB X) {f : Nat} (hf : f < nF X) (hr : Int) {n : Nat} (hn : n ≤ nP X) : 0 ≤ whoA X f hr n ∧ whoA X f hr n ≤ n * 487 := sm_bd (fun p hp => by
  have := worth_bd B (p := p) (by omega) hf
  split <;> omega)
theorem whoH_eq (X : am_X) (f : Nat) (hr : Int) (person n : Nat) : whoH X f hr person n = if person < n ∧ fre X person hr = 1 then worth X person f + 1 else 0 := by
  induction n with
  | zero => rw [if_neg (by omega)]; rfl
  | succ n ih =>
    show whoH X f hr person n + (if fre X n hr = 1 ∧ n = person then worth X n f + 1 else 0) = _
    rw [ih]
    by_cases g : n = person
    · subst g
      rw [if_neg (by omega)]
      by_cases g2 : fre X n hr = 1
      · rw [if_pos ⟨g2, rfl⟩, if_pos ⟨by omega, g2⟩]; omega
      · rw [if_neg (fun h => g2 h.1), if_neg (fun h => g2 h.2)]; omega
    · rw [if_neg (fun h : fre X n hr = 1 ∧ n = person => g h.2)]
      by_cases g2 : person < n ∧ fre X person hr = 1
      · rw [if_pos g2, if_pos ⟨by omega, g2.2⟩]; omega
      · rw [if_neg g2, if_neg (fun h => g2 ⟨by omega, h.2⟩)]; omega
theorem fre_01 (X : am_X) (p : Nat) (hr : Int) : fre X p hr = 0 ∨ fre X p hr = 1 := by unfold fre; split <;> simp
theorem call_who {L : Nat} {xs : Nat → Int32} {M : am_M} {W : am_Wo} {b : Nat} (R : Rel L xs M W b) (x y t : Int32) : Call L xs 21 212 [.int x, .int y, .int t] M b := by
  obtain ⟨q, hq, S, HC, HM, B, h0⟩ := R
  obtain ⟨z, rfl, z1, z2⟩ := int_of x
  obtain ⟨w, rfl, w1, w2⟩ := int_of y
  obtain ⟨h, rfl, h1, h2⟩ := int_of t
  have hh := qok_h hq
  have B1 := B.1
  have hP5 := hB_P B1
  have hF8 := hB_F B1
  have b0 := is1_01 (wX W) 2 z
  have b1 := is1_01 (wX W) 1 w
  have r1 := c_isP S hh HC.1 B1 z1 z2 598
  have r2 := m_isPerson S HM.1 B1 z1 z2 597
  have r3 := c_isF S hh HC.1 B1 w1 w2 598
  have r4 := m_isFilm S HM.1 B1 w1 w2 597
  have e2 := HC.1.1 2 (by decide)
  by_cases g : is1 (wX W) 2 z = 1
  · by_cases g2 : is1 (wX W) 1 w = 1
    · by_cases g3 : 0 ≤ h ∧ h ≤ 23
      · obtain ⟨p, rfl, hp⟩ := is1_ex g
        obtain ⟨f, rfl, hf⟩ := is1_ex g2
        have hpP : p < nP (wX W) := by omega
        have hfF : f < nF (wX W) := by omega
        have hi3 : isin h 0 23 = 1 := if_pos g3
        have bw := worth_bd B1 hpP hfF
        have bA := whoA_bd B1 hfF h (Nat.le_refl (nP (wX W)))
        have eH := whoH_eq (wX W) f h p (nP (wX W))
        have h01 := fre_01 (wX W) p h
        -- the answer
        have clp : ∀ m n : Nat, n + m = nP (wX W) → ∀ (v5 v7 v9 : Value), am_ev 21 599 39 [.ref 2, .int (am_i p), .int (am_i f), .int (am_i h), .long (am_l (whoA (wX W) f h n)), v5, .long (am_l (whoH (wX W) f h p n)), v7, .int (am_i n), v9] [] M = some (some (.int (am_i (if whoA (wX W) f h (nP (wX W)) = 0 then -1 else whoH (wX W) f h p (nP (wX W)) * 1000000 / whoA (wX W) f h (nP (wX W))))), M) := by
          intro m
          induction m with
          | zero =>
            intro n hn v5 v7 v9
            have : n = nP (wX W) := by omega
            subst this
            rw [t21_39]
            simp (disch := omega) only [am_ob_p (kk_2 S), rr_2_3 S, am_gr_p, am_ob_p (kk_63 S), rr_63_0 S, am_ob_p (H_k0 S hh), am_ix_p (H_k1 S hh), am_iw_p (H_k1 S hh), am_ix_p (H_k6 S hh), am_iw_p (H_k6 S hh), am_ix_p (H_k16 S hh), am_iw_p (H_k16 S hh), am_ix_p (H_k17 S hh), am_iw_p (H_k17 S hh), am_ix_p (H_k24 S hh), am_iw_p (H_k24 S hh), H_r0_0 S hh, H_r0_1 S hh, H_r0_2 S hh, H_r0_3 S hh, H_r0_4 S hh, H_r0_5 S hh, H_r0_6 S hh, H_r0_15 S hh, H_r2 S hh, H_r7 S hh, H_r18 S hh, am_iq_p (H_k2 S hh), am_iq_p (H_k7 S hh), am_iq_p (H_k18 S hh), am_i_ix, Int.reduceToNat, e2, am_br_ge]
            rw [if_pos (by omega), cmp_ne (by omega) (by omega) (by omega) (by omega)]
            by_cases g4 : whoA (wX W) f h (nP (wX W)) = 0
            · rw [if_pos g4, if_pos g4]
            · have hb : 0 ≤ whoH (wX W) f h p (nP (wX W)) ∧ whoH (wX W) f h p (nP (wX W)) ≤ 487 := by rw [eH]; split <;> omega
              rw [if_neg g4, if_neg g4, am_if_f (by rw [am_l_z0 (by omega) (by omega)]; exact g4), am_l_mul, am_l_div (by omega) (by omega) (by omega) (by omega), am_l2i]
          | succ m ih =>
            intro n hn v5 v7 v9
            have hnP : n < nP (wX W) := by omega
            have f01 := fre_01 (wX W) n h
            have bwn := worth_bd B1 hnP hfF
            have eA : whoA (wX W) f h (n + 1) = whoA (wX W) f h n + (if fre (wX W) n h = 1 then worth (wX W) n f + 1 else 0) := rfl
            have eB : whoH (wX W) f h p (n + 1) = whoH (wX W) f h p n + (if fre (wX W) n h = 1 ∧ n = p then worth (wX W) n f + 1 else 0) := rfl
            rw [t21_39]
            simp (disch := omega) only [am_ob_p (kk_2 S), rr_2_3 S, am_gr_p, am_ob_p (kk_63 S), rr_63_0 S, am_ob_p (H_k0 S hh), am_ix_p (H_k1 S hh), am_iw_p (H_k1 S hh), am_ix_p (H_k6 S hh), am_iw_p (H_k6 S hh), am_ix_p (H_k16 S hh), am_iw_p (H_k16 S hh), am_ix_p (H_k17 S hh), am_iw_p (H_k17 S hh), am_ix_p (H_k24 S hh), am_iw_p (H_k24 S hh), H_r0_0 S hh, H_r0_1 S hh, H_r0_2 S hh, H_r0_3 S hh, H_r0_4 S hh, H_r0_5 S hh, H_r0_6 S hh, H_r0_15 S hh, H_r2 S hh, H_r7 S hh, H_r18 S hh, am_iq_p (H_k2 S hh), am_iq_p (H_k7 S hh), am_iq_p (H_k18 S hh), am_i_ix, Int.reduceToNat, e2, am_br_ge]
            rw [if_neg (by omega), c_isFree S hh HC.1 B1 hnP g3.1 g3.2, am_bI_p, am_br_eq (by omega) (by omega) (by omega) (by omega)]
            rcases f01 with f0 | f1
            · rw [if_p0 f0, am_i_add]
              have := ih (n + 1) (by omega) v5 (am_kl v7) v9
              rw [eA, eB, if_neg (by omega), if_neg (by omega), Int.add_zero, Int.add_zero] at this
              exact this
            · rw [if_p1 f1]
              simp (disch := omega) only [am_ob_p (kk_2 S), rr_2_3 S, am_gr_p, am_ob_p (kk_63 S), rr_63_0 S, am_ob_p (H_k0 S hh), c_worthOf S hh HC.1 B1 hnP hfF, am_bI_p, am_br_ne, am_i_add, am_i2l, am_l_add]
              by_cases g5 : n = p
              · rw [if_pos (by omega)]
                have := ih (n + 1) (by omega) .null .null (.int (am_i (worth (wX W) n f + 1)))
                rw [eA, eB, if_pos f1, if_pos ⟨f1, g5⟩] at this
                exact this
              · rw [if_neg (by omega)]
                have := ih (n + 1) (by omega) .null .null (.int (am_i (worth (wX W) n f + 1)))
                rw [eA, eB, if_pos f1, if_neg (fun h => g5 h.2)] at this
                exact this
        have mlp : ∀ m n : Nat, n + m = nP (wX W) → ∀ (v5 : Value), am_ev 212 599 36 [.ref 187, .int (am_i p), .int (am_i f), .int (am_i h), .long (am_l (whoA (wX W) f h n)), v5, .int (am_i n)] [] M = some (some (.int (am_i (if whoA (wX W) f h (nP (wX W)) = 0 then -1 else whoH (wX W) f h p (nP (wX W)) * 1000000 / whoA (wX W) f h (nP (wX W))))), M) := by
          intro m
          induction m with
          | zero =>
            intro n hn v5
            have : n = nP (wX W) := by omega
            subst this
            rw [t212_36, am_ob_p (kk_187 S), m_personMany S HM.1, am_bI_p, am_br_ge (by omega) (by omega) (by omega) (by omega), if_pos (by omega), cmp_ne (by omega) (by omega) (by omega) (by omega)]
            by_cases g4 : whoA (wX W) f h (nP (wX W)) = 0
            · rw [if_pos g4, if_pos g4]
            · rw [if_neg g4, if_neg g4, am_ob_p (kk_187 S), m_isFree S HM.1 B1 hpP g3.1 g3.2, am_bI_p, am_br_eq (by omega) (by omega) (by omega) (by omega)]
              rcases h01 with f0 | f1
              · rw [if_p0 f0, eH, if_neg (by omega), Int.zero_mul, Int.zero_ediv]
              · rw [if_p1 f1, eH, if_pos ⟨hpP, f1⟩, am_ob_p (kk_187 S), m_worthOf S HM.1 B1 hpP hfF, am_bI_p, am_if_f (by rw [am_l_z0 (by omega) (by omega)]; exact g4), am_i_add, am_i2l (by omega) (by omega), am_l_mul, am_l_div (by omega) (by omega) (by omega) (by omega), am_l2i, Int.mul_comm]
          | succ m ih =>
            intro n hn v5
            have hnP : n < nP (wX W) := by omega
            have f01 := fre_01 (wX W) n h
            have bwn := worth_bd B1 hnP hfF
            have eA : whoA (wX W) f h (n + 1) = whoA (wX W) f h n + (if fre (wX W) n h = 1 then worth (wX W) n f + 1 else 0) := rfl
            rw [t212_36, am_ob_p (kk_187 S), m_personMany S HM.1, am_bI_p, am_br_ge (by omega) (by omega) (by omega) (by omega), if_neg (by omega), am_ob_p (kk_187 S), m_isFree S HM.1 B1 hnP g3.1 g3.2, am_bI_p, am_br_eq (by omega) (by omega) (by omega) (by omega)]
            rcases f01 with f0 | f1
            · rw [if_p0 f0, am_i_add]
              have := ih (n + 1) (by omega) (am_kl v5)
              rw [eA, if_neg (by omega), Int.add_zero] at this
              exact this
            · rw [if_p1 f1, am_ob_p (kk_187 S), m_worthOf S HM.1 B1 hnP hfF, am_bI_p, am_i_add, am_i2l (by omega) (by omega), am_l_add, am_i_add]
              have := ih (n + 1) (by omega) .null
              rw [eA, if_pos f1] at this
              exact this
        refine Call_same (v := .int (am_i (if whoA (wX W) f h (nP (wX W)) = 0 then -1 else whoH (wX W) f h p (nP (wX W)) * 1000000 / whoA (wX W) f h (nP (wX W))))) (iv _) hq HC HM B h0 S ?_ ?_
        · rw [t21, am_ob_p (kk_2 S), r1, am_bI_p, am_br_eq (by omega) (by omega) (by omega) (by omega), if_p1 g, am_ob_p (kk_2 S), r3, am_bI_p, am_br_eq (by omega) (by omega) (by omega) (by omega), if_p1 g2, am_br_lt (by omega) (by omega) (by omega) (by omega), if_neg (by omega), am_br_lt (by omega) (by omega) (by omega) (by omega), if_pos (by omega)]
          exact clp (nP (wX W)) 0 (by omega) .null .null .null
        · rw [t212, am_ob_p (kk_187 S), r2, am_bI_p, am_br_eq (by omega) (by omega) (by omega) (by omega), if_p1 g, am_ob_p (kk_187 S), r4, am_bI_p, am_br_eq (by omega) (by omega) (by omega) (by omega), if_p1 g2, am_i2l (by omega) (by omega), m_isIn (by omega) (by omega) (by omega) (by omega) (by omega) (by omega), am_bI_p, hi3, am_br_ne (by omega) (by omega) (by omega) (by omega), if_neg (by omega)]
          exact mlp (nP (wX W)) 0 (by omega) .null
      · have hi3 : isin h 0 23 = 0 := if_neg g3
        refine Call_same (v := .int (am_i (-1))) (iv _) hq HC HM B h0 S ?_ ?_
        · rw [t21, am_ob_p (kk_2 S), r1, am_bI_p, am_br_eq (by omega) (by omega) (by omega) (by omega), if_p1 g, am_ob_p (kk_2 S), r3, am_bI_p, am_br_eq (by omega) (by omega) (by omega) (by omega), if_p1 g2, am_br_lt (by omega) (by omega) (by omega) (by omega)]
          by_cases g4 : h < 0
          · rw [if_pos g4]
          · rw [if_neg g4, am_br_lt (by omega) (by omega) (by omega) (by omega), if_neg (by omega)]
        · rw [t212, am_ob_p (kk_187 S), r2, am_bI_p, am_br_eq (by omega) (by omega) (by omega) (by omega), if_p1 g, am_ob_p (kk_187 S), r4, am_bI_p, am_br_eq (by omega) (by omega) (by omega) (by omega), if_p1 g2, am_i2l (by omega) (by omega), m_isIn (by omega) (by omega) (by omega) (by omega) (by omega) (by omega), am_bI_p, hi3, am_br_ne (by omega) (by omega) (by omega) (by omega), if_pos rfl]
    · have g2' := is1_0 g2
      refine Call_same (v := .int (am_i (-1))) (iv _) hq HC HM B h0 S ?_ ?_
      · rw [t21, am_ob_p (kk_2 S), r1, am_bI_p, am_br_eq (by omega) (by omega) (by omega) (by omega), if_p1 g, am_ob_p (kk_2 S), r3, am_bI_p, am_br_eq (by omega) (by omega) (by omega) (by omega), if_p0 g2']
      · rw [t212, am_ob_p (kk_187 S), r2, am_bI_p, am_br_eq (by omega) (by omega) (by omega) (by omega), if_p1 g, am_ob_p (kk_187 S), r4, am_bI_p, am_br_eq (by omega) (by omega) (by omega) (by omega), if_p0 g2']
  · have g' := is1_0 g
    refine Call_same (v := .int (am_i (-1))) (iv _) hq HC HM B h0 S ?_ ?_
    · rw [t21, am_ob_p (kk_2 S), r1, am_bI_p, am_br_eq (by omega) (by omega) (by omega) (by omega), if_p0 g']
    · rw [t212, am_ob_p (kk_187 S), r2, am_bI_p, am_br_eq (by omega) (by omega) (by omega) (by omega), if_p0 g']
/-- what is left of the price, who saw most so far -/
def sharL (X : am_X) (A : am_A) (n : Nat) : Int := X 9 0 0 - sm (fun p => X 9 0 0 * A 4 p 0 / sawAll X A) n
theorem sharL_succ (X : am_X) (A : am_A) (n : Nat) : sharL X A (n + 1) = sharL X A n - X 9 0 0 * A 4 n 0 / sawAll X A := by
  show X 9 0 0 - (sm (fun p => X 9 0 0 * A 4 p 0 / sawAll X A) n + X 9 0 0 * A 4 n 0 / sawAll X A) = X 9 0 0 - sm (fun p => X 9 0 0 * A 4 p 0 / sawAll X A) n - X 9 0 0 * A 4 n 0 / sawAll X A
  omega
def sharF (A : am_A) : Nat → Nat
  | 0 => 0
  | n + 1 => if A 4 (sharF A n) 0 < A 4 n 0 then n else sharF A n
theorem sharF_lt (A : am_A) : ∀ n, 0 < n → sharF A n < n
  | 0, h => absurd h (by decide)
  | 1, _ => by
    unfold sharF
    split
    · exact Nat.one_pos
    · exact Nat.one_pos
  | n + 2, _ => by
    have := sharF_lt A (n + 1) (by omega)
    unfold sharF
    split <;> omega
theorem pr_bd {X : am_X} {A : am_A} (B : hB X) (BA : aB X A) {p : Nat} (hp : p < 5) : 0 ≤ X 9 0 0 * A 4 p 0 ∧ X 9 0 0 * A 4 p 0 ≤ 9989001 := by
  have h1 := hB_pc B
  have h2 := aB_sa BA hp
  refine ⟨Int.mul_nonneg h1.1 h2.1, ?_⟩
  calc X 9 0 0 * A 4 p 0 ≤ 999 * A 4 p 0 := Int.mul_le_mul_of_nonneg_right h1.2 h2.1
    _ ≤ 999 * 9999 := Int.mul_le_mul_of_nonneg_left h2.2 (by decide)
    _ ≤ 9989001 := by decide
theorem call_share {L : Nat} {xs : Nat → Int32} {M : am_M} {W : am_Wo} {b : Nat} (R : Rel L xs M W b) (x : Int32) : Call L xs 23 216 [.int x] M b := by
  obtain ⟨q, hq, S, HC, HM, B, h0⟩ := R
  obtain ⟨z, rfl, z1, z2⟩ := int_of x
  have hh := qok_h hq
  have B1 := B.1
  have BA := B.2.2.2.1
  have hP5 := hB_P B1
  have b0 := is1_01 (wX W) 2 z
  have r1 := c_isP S hh HC.1 B1 z1 z2 598
  have r2 := m_isPerson S HM.1 B1 z1 z2 597
  have r3 := c_sawTogether S hh HC.1 HC.2.2.2.1 B1 598
  have r4 := m_hoursAll S HM.1 HM.2.2.2.1 B1 597
  have bA := sawAll_bd B1 BA
  have e2 := HC.1.1 2 (by decide)
  have e9 : am_I M q.2.2.1 9 = am_i (wX W 9 0 0) := HC.1.2.2.2.2.2.2 2 (by decide)
  have m9 : am_I M 225 5 = am_i (wX W 9 0 0) := HM.1.2.2.2.2.2.2 1 (by decide)
  have bpc := hB_pc B1
  by_cases g : is1 (wX W) 2 z = 1
  · by_cases g2 : sawAll (wX W) (wA W) = 0
    · refine Call_same (v := .int (am_i (-1))) (iv _) hq HC HM B h0 S ?_ ?_
      · rw [t23, am_ob_p (kk_2 S), r3, am_bI_p, am_ob_p (kk_2 S), r1, am_bI_p, am_br_eq (by omega) (by omega) (by omega) (by omega), if_p1 g, am_br_ne (by omega) (by omega) (by omega) (by omega), if_p0 g2]
      · rw [t216, am_ob_p (kk_187 S), r4, am_bI_p, am_ob_p (kk_187 S), r2, am_bI_p, am_br_eq (by omega) (by omega) (by omega) (by omega), if_p1 g, am_br_ne (by omega) (by omega) (by omega) (by omega), if_p0 g2]
    · obtain ⟨p, rfl, hp⟩ := is1_ex g
      have hpP : p < nP (wX W) := by omega
      have nz : ¬ (am_i (sawAll (wX W) (wA W)) = 0) := by
        rw [am_i_0, am_i_eq (by omega) (by omega) (by omega) (by omega)]
        exact g2
      have ep := HC.2.2.2.1.2.2.2.2 p (by omega)
      have bp := pr_bd B1 BA (show p < 5 by omega)
      have clp : ∀ m n : Nat, n + m = nP (wX W) → am_ev 23 599 40 [.ref 2, .int (am_i p), .int (am_i (sawAll (wX W) (wA W))), .int (am_i (wX W 9 0 0)), .int (am_i (sharL (wX W) (wA W) n)), .int (am_i (sharF (wA W) n)), .int (am_i n)] [] M = some (some (.int (am_i (wX W 9 0 0 * wA W 4 p 0 / sawAll (wX W) (wA W) + if p = sharF (wA W) (nP (wX W)) then sharL (wX W) (wA W) (nP (wX W)) else 0))), M) := by
        intro m
        induction m with
        | zero =>
          intro n hn
          have : n = nP (wX W) := by omega
          subst this
          have hF := sharF_lt (wA W) (nP (wX W)) (by omega)
          rw [t23_40]
          simp (disch := omega) only [am_ob_p (kk_2 S), am_ob_p (kk_3 S), am_ob_p (kk_63 S), am_ob_p (kk_64 S), rr_63_0 S, rr_63_1 S, rr_64_2 S, rr_64_3 S, rr_64_4 S, rr_64_5 S, rr_2_0 S, rr_2_1 S, rr_2_3 S, rr_2_4 S, rr_2_5 S, rr_2_8 S, rr_2_10 S, rr_2_12 S, rr_2_13 S, rr_2_14 S, am_ix_p (kk_30 S), am_iw_p (kk_30 S), am_ix_p (kk_33 S), am_iw_p (kk_33 S), am_ix_p (kk_34 S), am_iw_p (kk_34 S), am_ix_p (kk_35 S), am_iw_p (kk_35 S), am_ix_p (kk_36 S), am_iw_p (kk_36 S), am_ix_p (kk_37 S), am_iw_p (kk_37 S), am_ix_p (kk_65 S), am_iw_p (kk_65 S), am_ix_p (kk_66 S), am_iw_p (kk_66 S), am_ix_p (kk_67 S), am_iw_p (kk_67 S), am_ix_p (kk_68 S), am_iw_p (kk_68 S), am_gr_p, am_ob_p (H_k0 S hh), am_ix_p (H_k1 S hh), am_iw_p (H_k1 S hh), am_ix_p (H_k6 S hh), am_iw_p (H_k6 S hh), am_ix_p (H_k16 S hh), am_iw_p (H_k16 S hh), am_ix_p (H_k17 S hh), am_iw_p (H_k17 S hh), am_ix_p (H_k24 S hh), am_iw_p (H_k24 S hh), H_r0_0 S hh, H_r0_1 S hh, H_r0_2 S hh, H_r0_3 S hh, H_r0_4 S hh, H_r0_5 S hh, H_r0_6 S hh, H_r0_15 S hh, H_r2 S hh, H_r7 S hh, H_r18 S hh, am_iq_p (H_k2 S hh), am_iq_p (H_k7 S hh), am_iq_p (H_k18 S hh), am_i_ix, Int.reduceToNat, Int.toNat_natCast, e2, am_br_ge, ep, am_i_mul, am_if_f nz, am_i_div, am_br_ne, am_i_add]
          rw [if_pos (by omega)]
          by_cases g5 : p = sharF (wA W) (nP (wX W))
          · rw [if_pos (by omega), if_pos g5]
          · rw [if_neg (by omega), if_neg g5, Int.add_zero]
        | succ m ih =>
          intro n hn
          have hnP : n < nP (wX W) := by omega
          have hFn : sharF (wA W) n < 5 := by
            rcases Nat.eq_zero_or_pos n with h | h
            · subst h; show 0 < 5; decide
            · have := sharF_lt (wA W) n h; omega
          have en := HC.2.2.2.1.2.2.2.2 n (by omega)
          have eF := HC.2.2.2.1.2.2.2.2 (sharF (wA W) n) hFn
          have bn := pr_bd B1 BA (show n < 5 by omega)
          have s1 := aB_sa BA (show n < 5 by omega)
          have s2 := aB_sa BA hFn
          have eL := sharL_succ (wX W) (wA W) n
          have eS : sharF (wA W) (n + 1) = if wA W 4 (sharF (wA W) n) 0 < wA W 4 n 0 then n else sharF (wA W) n := rfl
          rw [t23_40]
          simp (disch := omega) only [am_ob_p (kk_2 S), am_ob_p (kk_3 S), am_ob_p (kk_63 S), am_ob_p (kk_64 S), rr_63_0 S, rr_63_1 S, rr_64_2 S, rr_64_3 S, rr_64_4 S, rr_64_5 S, rr_2_0 S, rr_2_1 S, rr_2_3 S, rr_2_4 S, rr_2_5 S, rr_2_8 S, rr_2_10 S, rr_2_12 S, rr_2_13 S, rr_2_14 S, am_ix_p (kk_30 S), am_iw_p (kk_30 S), am_ix_p (kk_33 S), am_iw_p (kk_33 S), am_ix_p (kk_34 S), am_iw_p (kk_34 S), am_ix_p (kk_35 S), am_iw_p (kk_35 S), am_ix_p (kk_36 S), am_iw_p (kk_36 S), am_ix_p (kk_37 S), am_iw_p (kk_37 S), am_ix_p (kk_65 S), am_iw_p (kk_65 S), am_ix_p (kk_66 S), am_iw_p (kk_66 S), am_ix_p (kk_67 S), am_iw_p (kk_67 S), am_ix_p (kk_68 S), am_iw_p (kk_68 S), am_gr_p, am_ob_p (H_k0 S hh), am_ix_p (H_k1 S hh), am_iw_p (H_k1 S hh), am_ix_p (H_k6 S hh), am_iw_p (H_k6 S hh), am_ix_p (H_k16 S hh), am_iw_p (H_k16 S hh), am_ix_p (H_k17 S hh), am_iw_p (H_k17 S hh), am_ix_p (H_k24 S hh), am_iw_p (H_k24 S hh), H_r0_0 S hh, H_r0_1 S hh, H_r0_2 S hh, H_r0_3 S hh, H_r0_4 S hh, H_r0_5 S hh, H_r0_6 S hh, H_r0_15 S hh, H_r2 S hh, H_r7 S hh, H_r18 S hh, am_iq_p (H_k2 S hh), am_iq_p (H_k7 S hh), am_iq_p (H_k18 S hh), am_i_ix, Int.reduceToNat, Int.toNat_natCast, e2, am_br_ge, en, eF, am_i_mul, am_if_f nz, am_i_div, am_i_sub, am_lt, am_br_le, am_i_add]
          rw [if_neg (by omega)]
          have := ih (n + 1) (by omega)
          rw [eL, eS] at this
          by_cases g5 : wA W 4 (sharF (wA W) n) 0 < wA W 4 n 0
          · rw [if_neg (by omega)]
            rw [if_pos g5] at this
            exact this
          · rw [if_pos (by omega)]
            rw [if_neg g5] at this
            exact this
      have mlp : ∀ m n : Nat, n + m = nP (wX W) → am_ev 216 599 32 [.ref 187, .int (am_i p), .int (am_i (sawAll (wX W) (wA W))), .int (am_i (sharL (wX W) (wA W) n)), .int (am_i (sharF (wA W) n)), .int (am_i n)] [] M = some (some (.int (am_i (wX W 9 0 0 * wA W 4 p 0 / sawAll (wX W) (wA W) + if p = sharF (wA W) (nP (wX W)) then sharL (wX W) (wA W) (nP (wX W)) else 0))), M) := by
        intro m
        induction m with
        | zero =>
          intro n hn
          have : n = nP (wX W) := by omega
          subst this
          have hF := sharF_lt (wA W) (nP (wX W)) (by omega)
          rw [t216_32]
          simp (disch := omega) only [am_ob_p (kk_187 S), m_personMany S HM.1, am_bI_p, am_br_ge, rr_187_47 S, am_gr_p, am_ix_p (kk_225 S), am_i_ix, Int.reduceToNat, m9, m_hoursOf S HM.2.2.2.1, am_i_mul, am_if_f nz, am_i_div, am_br_ne, am_i_add]
          rw [if_pos (by omega)]
          by_cases g5 : p = sharF (wA W) (nP (wX W))
          · rw [if_pos (by omega), if_pos g5]
          · rw [if_neg (by omega), if_neg g5]
        | succ m ih =>
          intro n hn
          have hnP : n < nP (wX W) := by omega
          have hFn : sharF (wA W) n < 5 := by
            rcases Nat.eq_zero_or_pos n with h | h
            · subst h; show 0 < 5; decide
            · have := sharF_lt (wA W) n h; omega
          have bn := pr_bd B1 BA (show n < 5 by omega)
          have s1 := aB_sa BA (show n < 5 by omega)
          have s2 := aB_sa BA hFn
          have eL := sharL_succ (wX W) (wA W) n
          have eS : sharF (wA W) (n + 1) = if wA W 4 (sharF (wA W) n) 0 < wA W 4 n 0 then n else sharF (wA W) n := rfl
          rw [t216_32]
          simp (disch := omega) only [am_ob_p (kk_187 S), m_personMany S HM.1, am_bI_p, am_br_ge, rr_187_47 S, am_gr_p, am_ix_p (kk_225 S), am_i_ix, Int.reduceToNat, m9, m_hoursOf S HM.2.2.2.1, am_i_mul, am_if_f nz, am_i_div, am_i_sub, am_lt, am_br_le, am_i_add]
          rw [if_neg (by omega)]
          have := ih (n + 1) (by omega)
          rw [eL, eS] at this
          by_cases g5 : wA W 4 (sharF (wA W) n) 0 < wA W 4 n 0
          · rw [if_neg (by omega)]
            rw [if_pos g5] at this
            exact this
          · rw [if_pos (by omega)]
            rw [if_neg g5] at this
            exact this
      have e0 : sharL (wX W) (wA W) 0 = wX W 9 0 0 := by unfold sharL; show _ - (0 : Int) = _; omega
      refine Call_same (v := .int (am_i (wX W 9 0 0 * wA W 4 p 0 / sawAll (wX W) (wA W) + if p = sharF (wA W) (nP (wX W)) then sharL (wX W) (wA W) (nP (wX W)) else 0))) (iv _) hq HC HM B h0 S ?_ ?_
      · rw [t23, am_ob_p (kk_2 S), r3, am_bI_p, am_ob_p (kk_2 S), r1, am_bI_p, am_br_eq (by omega) (by omega) (by omega) (by omega), if_p1 g, am_br_ne (by omega) (by omega) (by omega) (by omega), if_p1' g2]
        simp (disch := omega) only [am_ob_p (kk_2 S), am_ob_p (kk_3 S), am_ob_p (kk_63 S), am_ob_p (kk_64 S), rr_63_0 S, rr_63_1 S, rr_64_2 S, rr_64_3 S, rr_64_4 S, rr_64_5 S, rr_2_0 S, rr_2_1 S, rr_2_3 S, rr_2_4 S, rr_2_5 S, rr_2_8 S, rr_2_10 S, rr_2_12 S, rr_2_13 S, rr_2_14 S, am_ix_p (kk_30 S), am_iw_p (kk_30 S), am_ix_p (kk_33 S), am_iw_p (kk_33 S), am_ix_p (kk_34 S), am_iw_p (kk_34 S), am_ix_p (kk_35 S), am_iw_p (kk_35 S), am_ix_p (kk_36 S), am_iw_p (kk_36 S), am_ix_p (kk_37 S), am_iw_p (kk_37 S), am_ix_p (kk_65 S), am_iw_p (kk_65 S), am_ix_p (kk_66 S), am_iw_p (kk_66 S), am_ix_p (kk_67 S), am_iw_p (kk_67 S), am_ix_p (kk_68 S), am_iw_p (kk_68 S), am_gr_p, am_ob_p (H_k0 S hh), am_ix_p (H_k1 S hh), am_iw_p (H_k1 S hh), am_ix_p (H_k6 S hh), am_iw_p (H_k6 S hh), am_ix_p (H_k16 S hh), am_iw_p (H_k16 S hh), am_ix_p (H_k17 S hh), am_iw_p (H_k17 S hh), am_ix_p (H_k24 S hh), am_iw_p (H_k24 S hh), H_r0_0 S hh, H_r0_1 S hh, H_r0_2 S hh, H_r0_3 S hh, H_r0_4 S hh, H_r0_5 S hh, H_r0_6 S hh, H_r0_15 S hh, H_r2 S hh, H_r7 S hh, H_r18 S hh, am_iq_p (H_k2 S hh), am_iq_p (H_k7 S hh), am_iq_p (H_k18 S hh), e9]
        have := clp (nP (wX W)) 0 (by omega)
        rw [e0] at this
        exact this
      · rw [t216, am_ob_p (kk_187 S), r4, am_bI_p, am_ob_p (kk_187 S), r2, am_bI_p, am_br_eq (by omega) (by omega) (by omega) (by omega), if_p1 g, am_br_ne (by omega) (by omega) (by omega) (by omega), if_p1' g2]
        simp (disch := omega) only [am_ob_p (kk_187 S), rr_187_47 S, am_gr_p, am_ix_p (kk_225 S), am_i_ix, Int.reduceToNat, m9]
        have := mlp (nP (wX W)) 0 (by omega)
        rw [e0] at this
        exact this
  · have g' := is1_0 g
    refine Call_same (v := .int (am_i (-1))) (iv _) hq HC HM B h0 S ?_ ?_
    · rw [t23, am_ob_p (kk_2 S), r3, am_bI_p, am_ob_p (kk_2 S), r1, am_bI_p, am_br_eq (by omega) (by omega) (by omega) (by omega), if_p0 g']
    · rw [t216, am_ob_p (kk_187 S), r4, am_bI_p, am_ob_p (kk_187 S), r2, am_bI_p, am_br_eq (by omega) (by omega) (by omega) (by omega), if_p0 g']
