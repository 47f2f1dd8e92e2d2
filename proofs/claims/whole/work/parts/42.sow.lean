/-! The hours a person saw have no weight in what comes. -/
def eq4 (A A' : am_A) : Prop := ∀ i j k, i ≠ 4 → A i j k = A' i j k
theorem uA_c4 {A A' : am_A} (h : eq4 A A') {i j k : Nat} {v v' : Int} (hv : v = v') : eq4 (uA A i j k v) (uA A' i j k v') := by
  intro a b c ha
  subst hv
  by_cases g : a = i ∧ b = j ∧ c = k
  · obtain ⟨rfl, rfl, rfl⟩ := g
    rw [uA_eq, uA_eq]
  · rw [uA_ne g, uA_ne g]
    exact h a b c ha
theorem uA_4 (A : am_A) (p : Nat) (v : Int) : eq4 (uA A 4 p 0 v) A := fun a b c ha => uA_ne (fun h => ha h.1)
theorem eq4_sym {A A' : am_A} (h : eq4 A A') : eq4 A' A := fun i j k g => (h i j k g).symm
theorem eq4_tr {A A' A2 : am_A} (h : eq4 A A') (h' : eq4 A' A2) : eq4 A A2 := fun i j k g => (h i j k g).trans (h' i j k g)
theorem score_c4 {A A' : am_A} (h : eq4 A A') (X : am_X) (q f : Nat) : score X A q f = score X A' q f := by
  unfold score
  rw [sm_congr (fun k _ => by rw [h 2 q k (by decide)])]
theorem fct_c4 {A A' : am_A} (h : eq4 A A') (X : am_X) (q f p : Nat) (t w : Int) : fct X A q f p t w = fct X A' q f p t w := by
  funext k
  match k with
  | 0 => exact congrArg (fun x => x % 24) (h 0 0 0 (by decide))
  | 1 => rfl
  | 2 => rfl
  | 3 => rfl
  | 4 => exact h 3 q f (by decide)
  | 5 => exact score_c4 h X q f
  | 6 => rfl
  | n + 7 => rfl
theorem mayT_c4 {A A' : am_A} (h : eq4 A A') (X : am_X) (G : am_Gf) (q f : Nat) : mayT X G A q f = mayT X G A' q f := by
  unfold mayT
  cases G 2 with
  | none => rfl
  | some l => dsimp only; rw [fct_c4 h]
theorem sugF_c4 {A A' : am_A} (h : eq4 A A') (X : am_X) (G : am_Gf) (q : Nat) : ∀ n, sugF X G A q n = sugF X G A' q n
  | 0 => rfl
  | n + 1 => by
    have ih := sugF_c4 h X G q n
    show (if A 3 q n < X 2 n 0 ∧ (sugF X G A q n).2 < score X A q n ∧ mayT X G A q n = 1 then ((n : Int), score X A q n) else sugF X G A q n) = (if A' 3 q n < X 2 n 0 ∧ (sugF X G A' q n).2 < score X A' q n ∧ mayT X G A' q n = 1 then ((n : Int), score X A' q n) else sugF X G A' q n)
    rw [ih, score_c4 h, mayT_c4 h, h 3 q n (by decide)]
theorem prof_c4 {A A' : am_A} (h : eq4 A A') (p : Nat) : prof A p = prof A' p := prof_congr (h 1 0 0 (by decide)) p
theorem fnow_c4 {A A' : am_A} (h : eq4 A A') (X : am_X) (G : am_Gf) (p : Nat) : fnow X G A p = fnow X G A' p := by
  unfold fnow sug
  rw [h 0 0 0 (by decide), prof_c4 h, sugF_c4 h]
theorem grow_c4 {A A' : am_A} (h : eq4 A A') (X : am_X) (G : am_Gf) (q f k : Nat) : grow X G A q f k = grow X G A' q f k := by
  unfold grow
  cases G 0 with
  | none => rfl
  | some l => dsimp only; rw [fct_c4 h, h 2 q k (by decide)]
theorem seeT_c4 {A A' : am_A} (h : eq4 A A') (X : am_X) (G : am_Gf) (q f : Nat) : ∀ n, eq4 (seeT X G q f A n) (seeT X G q f A' n)
  | 0 => h
  | n + 1 => by
    have ih := seeT_c4 h X G q f n
    by_cases g : 0 < X 3 f n
    · rw [seeT_succ_pos g, seeT_succ_pos g]
      exact uA_c4 ih (by rw [ih 2 q n (by decide), grow_c4 ih])
    · rw [seeT_succ_neg g, seeT_succ_neg g]
      exact ih
theorem see_c4 {A A' : am_A} (h : eq4 A A') (X : am_X) (G : am_Gf) (q f : Nat) : eq4 (see X G A q f) (see X G A' q f) := seeT_c4 (uA_c4 h (by rw [h 3 q f (by decide)])) X G q f _
theorem watch_see (X : am_X) (G : am_Gf) (A : am_A) (p f : Nat) : eq4 (watch X G A p f) (see X G A (prof A p) f) := uA_4 _ _ _
theorem watch_c4 {A A' : am_A} (h : eq4 A A') (X : am_X) (G : am_Gf) (p f : Nat) : eq4 (watch X G A p f) (watch X G A' p f) := by
  refine eq4_tr (watch_see _ _ _ _ _) (eq4_tr ?_ (eq4_sym (watch_see _ _ _ _ _)))
  rw [prof_c4 h]
  exact see_c4 h _ _ _ _
theorem plz_c4 {A A' : am_A} (h : eq4 A A') (X : am_X) (p f : Nat) : plz X A p f = plz X A' p f := by
  unfold plz
  rw [prs_congr (h 1 0 0 (by decide))]
theorem hP_c4 {s s' : am_Hs} (h : eq4 s.1 s'.1) (h2 : s.2.1 = s'.2.1) (X : am_X) (G : am_Gf) (p : Nat) : eq4 (hP X G p s).1 (hP X G p s').1 ∧ (hP X G p s).2.1 = (hP X G p s').2.1 := by
  unfold hP
  rw [← fnow_c4 h X G p, ← h2]
  split
  · exact ⟨h, rfl⟩
  · split
    · exact ⟨h, rfl⟩
    · exact ⟨watch_c4 h _ _ _ _, by dsimp only; rw [plz_c4 h]⟩
theorem hPs_c4 {s s' : am_Hs} (h : eq4 s.1 s'.1) (h2 : s.2.1 = s'.2.1) (X : am_X) (G : am_Gf) : ∀ n, eq4 (hPs X G s n).1 (hPs X G s' n).1 ∧ (hPs X G s n).2.1 = (hPs X G s' n).2.1
  | 0 => ⟨h, h2⟩
  | n + 1 => by
    obtain ⟨i1, i2⟩ := hPs_c4 h h2 X G n
    exact hP_c4 i1 i2 X G n
theorem fadeA_c4 {A A' : am_A} (h : eq4 A A') (X : am_X) (G : am_Gf) : eq4 (fadeA X G A) (fadeA X G A') := by
  intro i j k hi
  unfold fadeA
  cases G 1 with
  | none => exact h i j k hi
  | some l =>
    dsimp only
    rw [fct_c4 h, h 2 j k (by decide), h i j k hi]
theorem hour_c4 {s s' : am_Hs} (h : eq4 s.1 s'.1) (h2 : s.2.1 = s'.2.1) (X : am_X) (G : am_Gf) : eq4 (hour X G s).1 (hour X G s').1 ∧ (hour X G s).2.1 = (hour X G s').2.1 := by
  obtain ⟨i1, i2⟩ := hPs_c4 (s := (s.1, q0 s.2.1, s.2.2)) (s' := (s'.1, q0 s'.2.1, s'.2.2)) h (by dsimp only; rw [h2]) X G (nP X)
  have i3 := fadeA_c4 i1 X G
  unfold hour tick
  exact ⟨uA_c4 i3 (by rw [i3 0 0 0 (by decide)]), i2⟩
theorem hours_c4 {s s' : am_Hs} (h : eq4 s.1 s'.1) (h2 : s.2.1 = s'.2.1) (X : am_X) (G : am_Gf) : ∀ n, eq4 (hours X G s n).1 (hours X G s' n).1 ∧ (hours X G s n).2.1 = (hours X G s' n).2.1
  | 0 => ⟨h, h2⟩
  | n + 1 => by
    obtain ⟨i1, i2⟩ := hours_c4 h h2 X G n
    exact hour_c4 i1 i2 X G
/-- the pleasure of p, n hours ahead, once f was shown to him -/
def sowP (W : am_Wo) (p n f : Nat) : Int := (hours (wX W) (wG W) (see (wX W) (wG W) (wA W) (prof (wA W) p) f, qz, wK W) n).2.1 0 p
def sowk (W : am_Wo) (p n : Nat) : Nat → Nat → Int → Int → Int
  | 0, _, best, _ => best
  | m + 1, f, best, most => if wA W 3 (prof (wA W) p) f < wX W 2 f 0 then (if best = -1 ∨ most < sowP W p n f then sowk W p n m (f + 1) f (sowP W p n f) else sowk W p n m (f + 1) best most) else sowk W p n m (f + 1) best most
theorem c_hasPart {L : Nat} {q0 : am_Pq} {M : am_M} {c h : Nat} (S : am_Sh L q0 M) (hc : isC c) (hh : isH h) (hch : am_R M c 0 = some h) {X : am_X} {A : am_A} (HX : cH M h X) (HA : cA M (c + 1) A) (B : hB X) (BA : aB X A) {p f : Nat} (hp : p < nP X) (hf : f < nF X) (d : Nat) :
    am_cl 75 (d + 1) [.ref c, .int (am_i p), .int (am_i f)] M = some (some (.int (am_i (if A 3 (prof A p) f < X 2 f 0 then 1 else 0))), M) := by
  have hP5 := (hB_P B).2
  have hF8 := (hB_F B).2
  have hq := prof_lt A (show p < 5 by omega)
  have e1 := HA.2.2.2.1 _ hq f (by omega)
  have e2 := HX.2.1 f hf
  have b1 := aB_se9 B BA hq (show f < 8 by omega)
  have b2 := hB_pt B hf
  have u : ((prof A p : Int) * 8 + (f : Int)).toNat = 8 * prof A p + f := by omega
  rw [t75]
  simp (disch := omega) only [am_ob_p (C_k0 S hc), am_ob_p (C_k1 S hc), am_ob_p (C_k8 S hc), am_ix_p (C_k2 S hc), am_iw_p (C_k2 S hc), am_ix_p (C_k3 S hc), am_iw_p (C_k3 S hc), am_ix_p (C_k4 S hc), am_iw_p (C_k4 S hc), am_ix_p (C_k5 S hc), am_iw_p (C_k5 S hc), am_ix_p (C_k6 S hc), am_iw_p (C_k6 S hc), am_ix_p (C_k7 S hc), am_iw_p (C_k7 S hc), am_ix_p (C_k9 S hc), am_iw_p (C_k9 S hc), am_ix_p (C_k10 S hc), am_iw_p (C_k10 S hc), am_ix_p (C_k11 S hc), am_iw_p (C_k11 S hc), C_r0_1 S hc, C_r0_2 S hc, C_r0_3 S hc, C_r0_5 S hc, C_r1_2 S hc, C_r1_3 S hc, C_r1_4 S hc, C_r1_5 S hc, C_r8_0 S hc, C_r8_1 S hc, C_r8_2 S hc, am_gr_p, c_profileOf S (C_k1 S hc) HA (aB_p5 B BA), am_bI_p, hch, am_ob_p (H_k0 S hh), am_ix_p (H_k1 S hh), am_iw_p (H_k1 S hh), am_ix_p (H_k6 S hh), am_iw_p (H_k6 S hh), am_ix_p (H_k16 S hh), am_iw_p (H_k16 S hh), am_ix_p (H_k17 S hh), am_iw_p (H_k17 S hh), am_ix_p (H_k24 S hh), am_iw_p (H_k24 S hh), H_r0_0 S hh, H_r0_1 S hh, H_r0_2 S hh, H_r0_3 S hh, H_r0_4 S hh, H_r0_5 S hh, H_r0_6 S hh, H_r0_15 S hh, H_r2 S hh, H_r7 S hh, H_r18 S hh, am_iq_p (H_k2 S hh), am_iq_p (H_k7 S hh), am_iq_p (H_k18 S hh), am_i_mul, am_i_add, am_i_ix, Int.toNat_natCast, u, e1, e2, am_br_ge, am_tr_0, am_tr_1]
  by_cases g : A 3 (prof A p) f < X 2 f 0
  · rw [if_neg (by omega), if_pos g]
  · rw [if_pos (by omega), if_neg g]
set_option maxHeartbeats 4000000 in
theorem call_sow {L : Nat} {xs : Nat → Int32} {M : am_M} {W : am_Wo} {b : Nat} (R : Rel L xs M W b) (hb : b < 1000000000) (x y : Int32) : Call L xs 20 211 [.int x, .int y] M b := by
  obtain ⟨q, hq, S, HC, HM, B, h0⟩ := R
  obtain ⟨z, rfl, z1, z2⟩ := int_of x
  obtain ⟨w, rfl, w1, w2⟩ := int_of y
  have hh := qok_h hq
  have B1 := B.1
  have BA := B.2.2.2.1
  have hP5 := hB_P B1
  have hF8 := hB_F B1
  have bp := aB_p BA
  have c63 : isC 63 := Or.inl rfl
  have c75 : isC 75 := Or.inr rfl
  have b0 := is1_01 (wX W) 2 z
  have b1 := pas_01 (wA W) w 0 72
  have r1 := c_isP S hh HC.1 B1 z1 z2 598
  have r2 := c_canPass S HC.2.2.2.1 BA w1 w2 (lo := 0) (hi := 72) (by decide) (by decide) (by decide) 598
  by_cases g : is1 (wX W) 2 z = 1
  · by_cases g2 : pas (wA W) w 0 72 = 1
    · obtain ⟨p, rfl, hp⟩ := is1_ex g
      obtain ⟨n, rfl, hn1, hn2, hn3, hn4⟩ := pas_ex g2 (by decide) (by decide)
      have hpP : p < nP (wX W) := by omega
      have hq6 := prof_lt (wA W) (show p < 5 by omega)
      have hqP : prof (wA W) p ≤ nP (wX W) := prof_le hpP
      -- bounds of what a film sown is worth
      have sb : ∀ f, f < nF (wX W) → wA W 3 (prof (wA W) p) f < wX W 2 f 0 → -1000000 ≤ sowP W p n f ∧ sowP W p n f ≤ 1000000 := by
        intro f hf hs
        have h := hours_q (G := wG W) B1 (s := (see (wX W) (wG W) (wA W) (prof (wA W) p) f, qz, wK W)) (aB_see (G := wG W) B1 BA hqP hf hs) p n (by dsimp only; rw [see_ne _ _ _ _ _ (by omega) (by omega)]; exact hn2)
        have h0 : (see (wX W) (wG W) (wA W) (prof (wA W) p) f, qz, wK W).2.1 0 p = 0 := rfl
        rw [h0] at h
        unfold sowP
        omega
      -- the class
      have clp : ∀ m f : Nat, f + m = nF (wX W) → ∀ (M1 : am_M) (q1 : am_Pq) (best most : Int) (v6 : Value), qok q1 → q1.2.2.1 = q.2.2.1 → am_Sh L q1 M1 → cWo q1 M1 W b → fr pB M M1 → -1 ≤ best → best < nF (wX W) → -1000000 ≤ most → most ≤ 1000000 →
          ∃ M2 q2, am_ev 20 599 30 [.ref 2, .int (am_i p), .int (am_i n), .int (am_i best), .int (am_i most), .int (am_i f), v6] [] M1 = some (some (.int (am_i (sowk W p n m f best most))), M2) ∧ qok q2 ∧ q2.2.2.1 = q.2.2.1 ∧ am_Sh L q2 M2 ∧ fr pB M M2 := by
        intro m
        induction m with
        | zero =>
          intro f hf M1 q1 best most v6 hq1 hqq S1 HC1 f1 hb1 hb2 hm1 hm2
          have hh1 := qok_h hq1
          have e1 := HC1.1.1 1 (by decide)
          refine ⟨M1, q1, ?_, hq1, hqq, S1, f1⟩
          rw [t20_30]
          simp (disch := omega) only [am_ob_p (kk_2 S1), rr_2_3 S1, am_gr_p, am_ob_p (kk_63 S1), rr_63_0 S1, am_ob_p (H_k0 S1 hh1), am_ix_p (H_k1 S1 hh1), am_iw_p (H_k1 S1 hh1), am_ix_p (H_k6 S1 hh1), am_iw_p (H_k6 S1 hh1), am_ix_p (H_k16 S1 hh1), am_iw_p (H_k16 S1 hh1), am_ix_p (H_k17 S1 hh1), am_iw_p (H_k17 S1 hh1), am_ix_p (H_k24 S1 hh1), am_iw_p (H_k24 S1 hh1), H_r0_0 S1 hh1, H_r0_1 S1 hh1, H_r0_2 S1 hh1, H_r0_3 S1 hh1, H_r0_4 S1 hh1, H_r0_5 S1 hh1, H_r0_6 S1 hh1, H_r0_15 S1 hh1, H_r2 S1 hh1, H_r7 S1 hh1, H_r18 S1 hh1, am_iq_p (H_k2 S1 hh1), am_iq_p (H_k7 S1 hh1), am_iq_p (H_k18 S1 hh1), am_i_ix, Int.toNat_one, e1, am_br_ge]
          rw [if_pos (by omega)]
          rfl
        | succ m ih =>
          intro f hf M1 q1 best most v6 hq1 hqq S1 HC1 f1 hb1 hb2 hm1 hm2
          have hfF : f < nF (wX W) := by omega
          have hh1 := qok_h hq1
          have hh1' : q1.2.2.1 = 4 ∨ q1.2.2.1 = 38 := hh1
          have e1 := HC1.1.1 1 (by decide)
          have rh := c_hasPart S1 c63 hh1 (rr_63_0 S1) HC1.1 HC1.2.2.2.1 B1 BA hpP hfF 597
          rw [t20_30]
          simp (disch := omega) only [am_ob_p (kk_2 S1), rr_2_3 S1, am_gr_p, am_ob_p (kk_63 S1), rr_63_0 S1, am_ob_p (H_k0 S1 hh1), am_ix_p (H_k1 S1 hh1), am_iw_p (H_k1 S1 hh1), am_ix_p (H_k6 S1 hh1), am_iw_p (H_k6 S1 hh1), am_ix_p (H_k16 S1 hh1), am_iw_p (H_k16 S1 hh1), am_ix_p (H_k17 S1 hh1), am_iw_p (H_k17 S1 hh1), am_ix_p (H_k24 S1 hh1), am_iw_p (H_k24 S1 hh1), H_r0_0 S1 hh1, H_r0_1 S1 hh1, H_r0_2 S1 hh1, H_r0_3 S1 hh1, H_r0_4 S1 hh1, H_r0_5 S1 hh1, H_r0_6 S1 hh1, H_r0_15 S1 hh1, H_r2 S1 hh1, H_r7 S1 hh1, H_r18 S1 hh1, am_iq_p (H_k2 S1 hh1), am_iq_p (H_k7 S1 hh1), am_iq_p (H_k18 S1 hh1), am_i_ix, Int.toNat_one, e1, am_br_ge]
          rw [if_neg (by omega), rh, am_bI_p]
          by_cases g3 : wA W 3 (prof (wA W) p) f < wX W 2 f 0
          · rw [if_pos g3]
            simp (disch := omega) only [am_br_ne]
            rw [if_neg (by omega)]
            obtain ⟨M2, s2, S2, f2, HA2, HK2, HQ2⟩ := c_lookAhead S1 hh1 HC1.1 HC1.2.2.1 HC1.2.2.2.1 HC1.2.2.2.2.1 (by omega) B1 B.2.2.1 BA bp.1 bp.2 (n := 0) (by omega) (by omega) 592
            rw [aP_self] at HA2 HK2 HQ2
            have HC2 := cWo_mv HC1 hq1 B1 (q' := (q1.1, q1.2.1, q1.2.2.1, q1.2.2.1)) rfl (fr_mono f2 (fun b k h => (pB_s h).1))
            obtain ⟨M3, s3, S3, f3, HA3, HK3, h63⟩ := c_watch S2 c75 hh1 (rr_75_0 S2) HC2.1 HC2.2.2.1 HA2 HK2 (by omega) B1 B.2.2.1 BA hpP hfF g3 594
            have S4 := S3.sI 81 p (am_i 0)
            have f4 : fr pB M1 (am_sI M3 81 p (am_i 0)) := fr_tr (fr_tr f2 (fr_mono f3 (fun b k h => by unfold pW pS at h; unfold pB; omega))) (fr_sI (by unfold pB; omega))
            have HQ4 : cQ (am_sI M3 81 p (am_i 0)) 75 qz := by
              refine ⟨fun r hr => ?_, fun r hr => ?_⟩
              · by_cases g4 : r = p
                · subst g4
                  rw [am_I_same]; rfl
                · rw [am_I_ne2 g4, h63 r, if_neg g4]
                  exact HQ2.1 r hr
              · rw [am_I_ne1 (by omega), (f3 82 r (by unfold pW pS; omega)).1]
                exact HQ2.2 r hr
            have HA4 : cA (am_sI M3 81 p (am_i 0)) 76 (watch (wX W) (wG W) (wA W) p f) := cA_mv HA3 (fun b k h1 h2 h3 => am_I_ne1 (by omega))
            have HK4 := cK_mv HK3 (M' := am_sI M3 81 p (am_i 0)) (am_I_ne1 (by omega)) (fun k => am_I_ne1 (by omega))
            have HC4 := cWo_mv HC1 hq1 B1 (q' := (q1.1, q1.2.1, q1.2.2.1, q1.2.2.1)) rfl (fr_mono f4 (fun b k h => (pB_s h).1))
            have BW : aB (wX W) (watch (wX W) (wG W) (wA W) p f) := aB_watch B1 BA hpP hfF g3
            have hWt : watch (wX W) (wG W) (wA W) p f 0 0 0 = wA W 0 0 0 := watch_ne _ _ _ _ _ (by omega) (by omega) (by omega)
            have hsow : ∀ k, (hours (wX W) (wG W) (watch (wX W) (wG W) (wA W) p f, qz, kpush (wK W) (rowc (wA W) p f)) k).2.1 = (hours (wX W) (wG W) (see (wX W) (wG W) (wA W) (prof (wA W) p) f, qz, wK W) k).2.1 := fun k => (hours_c4 (s := (watch (wX W) (wG W) (wA W) p f, qz, kpush (wK W) (rowc (wA W) p f))) (s' := (see (wX W) (wG W) (wA W) (prof (wA W) p) f, qz, wK W)) (watch_see _ _ _ _ _) rfl _ _ k).2
            have bs := sb f hfF g3
            have hrs : ∀ j k : Nat, k + j = n → ∀ (M5 : am_M), am_Sh L (q1.1, q1.2.1, q1.2.2.1, q1.2.2.1) M5 → fr pB M1 M5 → cA M5 76 (hours (wX W) (wG W) (watch (wX W) (wG W) (wA W) p f, qz, kpush (wK W) (rowc (wA W) p f)) k).1 → cK M5 76 (hours (wX W) (wG W) (watch (wX W) (wG W) (wA W) p f, qz, kpush (wK W) (rowc (wA W) p f)) k).2.2 (b + 5 * 0 + 1 + 5 * k) → cQ M5 75 (hours (wX W) (wG W) (watch (wX W) (wG W) (wA W) p f, qz, kpush (wK W) (rowc (wA W) p f)) k).2.1 →
                ∃ M6, am_ev 20 599 102 [.ref 2, .int (am_i p), .int (am_i n), .int (am_i best), .int (am_i most), .int (am_i f), .int (am_i k)] [] M5 = am_ev 20 599 102 [.ref 2, .int (am_i p), .int (am_i n), .int (am_i best), .int (am_i most), .int (am_i f), .int (am_i n)] [] M6 ∧ am_Sh L (q1.1, q1.2.1, q1.2.2.1, q1.2.2.1) M6 ∧ fr pB M1 M6 ∧ cQ M6 75 (hours (wX W) (wG W) (watch (wX W) (wG W) (wA W) p f, qz, kpush (wK W) (rowc (wA W) p f)) n).2.1 := by
              intro j
              induction j with
              | zero =>
                intro k hk M5 S5 f5 HA5 HK5 HQ5
                have : k = n := by omega
                subst this
                exact ⟨M5, rfl, S5, f5, HQ5⟩
              | succ j ihj =>
                intro k hk M5 S5 f5 HA5 HK5 HQ5
                have hbd := (hours_bd (G := wG W) (s := (watch (wX W) (wG W) (wA W) p f, qz, kpush (wK W) (rowc (wA W) p f))) B1 BW k (by dsimp only; rw [hWt]; omega)).1
                obtain ⟨M6, r6, S6, f6, Hs6⟩ := c_passHour (s := hours (wX W) (wG W) (watch (wX W) (wG W) (wA W) p f, qz, kpush (wK W) (rowc (wA W) p f)) k) (h := q1.2.2.1) S5 c75 hh1 (rr_75_0 S5) (cH_mv HC1.1 B1 (fun b k h1 h2 => (f5 b k (by unfold pB; omega)).1)) (cG_mv HC1.2.2.1 (fun b k h1 h2 => (f5 b k (by unfold pB; omega)).1)) HA5 HK5 HQ5 (by omega) B1 B.2.2.1 hbd 593
                obtain ⟨M7, r7, hR⟩ := ihj (k + 1) (by omega) M6 S6 (fr_tr f5 (fr_mono f6 (fun b k h => h))) Hs6.1 (cK_le Hs6.2.1 (by omega)) Hs6.2.2.1
                refine ⟨M7, ?_, hR⟩
                rw [t20_102, am_br_ge (by omega) (by omega) (by omega) (by omega), if_neg (by omega), am_ob_p (kk_2 S5), rr_2_4 S5, am_gr_p, am_ob_p (kk_75 S5), r6, am_bI_p, am_i_add]
                exact r7
            obtain ⟨M6, r6, S6, f6, HQ6⟩ := hrs n 0 (by omega) _ S4 f4 HA4 HK4 HQ4
            have ep := HQ6.1 p (by omega)
            rw [hsow n] at ep
            have HC6 := cWo_mv HC1 hq1 B1 (q' := (q1.1, q1.2.1, q1.2.2.1, q1.2.2.1)) rfl (fr_mono f6 (fun b k h => (pB_s h).1))
            have ek : sowk W p n (m + 1) f best most = if best = -1 ∨ most < sowP W p n f then sowk W p n m (f + 1) f (sowP W p n f) else sowk W p n m (f + 1) best most := if_pos g3
            -- behind the hours
            have fin : ∃ M8 q8, am_ev 20 599 102 [.ref 2, .int (am_i p), .int (am_i n), .int (am_i best), .int (am_i most), .int (am_i f), .int (am_i n)] [] M6 = some (some (.int (am_i (sowk W p n (m + 1) f best most))), M8) ∧ qok q8 ∧ q8.2.2.1 = q.2.2.1 ∧ am_Sh L q8 M8 ∧ fr pB M M8 := by
              have at141 : ∀ (v3 v4 : Value), (best = -1 ∨ most < sowP W p n f) → ∃ M8 q8, am_ev 20 599 141 [.ref 2, .int (am_i p), .int (am_i n), v3, v4, .int (am_i f), .int (am_i n)] [] M6 = some (some (.int (am_i (sowk W p n (m + 1) f best most))), M8) ∧ qok q8 ∧ q8.2.2.1 = q.2.2.1 ∧ am_Sh L q8 M8 ∧ fr pB M M8 := by
                intro v3 v4 h
                obtain ⟨M8, q8, r8, hR⟩ := ih (f + 1) (by omega) M6 _ f (sowP W p n f) (.int (am_i n)) (qok_a hq1) hqq S6 HC6 (fr_tr f1 f6) (by omega) (by omega) bs.1 bs.2
                refine ⟨M8, q8, ?_, hR⟩
                rw [ek, if_pos h, t20_141]
                simp (disch := omega) only [am_ob_p (kk_2 S6), rr_2_4 S6, am_gr_p, am_ob_p (kk_75 S6), rr_75_2 S6, am_ix_p (kk_81 S6), am_i_ix, Int.toNat_natCast, ep, am_i_add]
                exact r8
              rw [t20_102, am_br_ge (by omega) (by omega) (by omega) (by omega), if_pos (by omega), am_br_eq (by omega) (by omega) (by omega) (by omega)]
              by_cases g4 : best = -1
              · rw [if_pos g4]
                exact at141 _ _ (Or.inl g4)
              · have hps : (hours (wX W) (wG W) (see (wX W) (wG W) (wA W) (prof (wA W) p) f, qz, wK W) n).2.1 0 p = sowP W p n f := rfl
                rw [if_neg g4]
                simp (disch := omega) only [am_ob_p (kk_2 S6), rr_2_4 S6, am_gr_p, am_ob_p (kk_75 S6), rr_75_2 S6, am_ix_p (kk_81 S6), am_i_ix, Int.toNat_natCast, ep, hps, am_br_le]
                by_cases g5 : sowP W p n f ≤ most
                · rw [if_pos g5]
                  obtain ⟨M8, q8, r8, hR⟩ := ih (f + 1) (by omega) M6 _ best most (.int (am_i n)) (qok_a hq1) hqq S6 HC6 (fr_tr f1 f6) hb1 hb2 hm1 hm2
                  refine ⟨M8, q8, ?_, hR⟩
                  rw [ek, if_neg (by omega), am_i_add]
                  exact r8
                · rw [if_neg g5]
                  exact at141 _ _ (Or.inr (by omega))
            obtain ⟨M8, q8, r8, hR⟩ := fin
            refine ⟨M8, q8, ?_, hR⟩
            rw [am_ob_p (kk_2 S1), rr_2_3 S1, am_gr_p, am_ob_p (kk_63 S1), rr_63_1 S1, am_gr_p, am_ob_p (kk_64 S1), am_ob_p (kk_2 S1), HC1.2.2.2.1.2.1, show (am_i 0) = am_i ((0 : Nat) : Int) from rfl, s2, am_bV_p, am_ob_p (kk_2 S2), rr_2_4 S2, am_gr_p, am_ob_p (kk_75 S2), s3, am_bI_p]
            simp (disch := omega) only [am_ob_p (kk_2 S3), rr_2_4 S3, am_gr_p, am_ob_p (kk_75 S3), rr_75_2 S3, am_iw_p (kk_81 S3), am_i_ix, Int.toNat_natCast, am_lt]
            exact r6.trans r8
          · rw [if_neg g3]
            simp (disch := omega) only [am_br_ne, am_i_add]
            rw [if_pos trivial]
            obtain ⟨M8, q8, r8, hR⟩ := ih (f + 1) (by omega) M1 q1 best most v6 hq1 hqq S1 HC1 f1 hb1 hb2 hm1 hm2
            refine ⟨M8, q8, ?_, hR⟩
            have ek : sowk W p n (m + 1) f best most = sowk W p n m (f + 1) best most := if_neg g3
            rw [ek]
            exact r8
      obtain ⟨M1, q1, s1, hq1, hqq1, S1, f1⟩ := clp (nF (wX W)) 0 (by omega) M q (-1) 0 .null hq rfl S HC (fr_rfl _ _) (by omega) (by omega) (by omega) (by omega)
      have HM1 := mWo_mv HM B1 (M' := M1) (fr_mono f1 (fun b k h => sM_lt (by unfold pB at h; omega)))
      obtain ⟨M2, s2, f2, T2⟩ := mTh_aside S1 HM1 B 598
      -- the reference
      have mlp : ∀ m f : Nat, f + m = nF (wX W) → ∀ (M3 : am_M) (best most : Int) (v6 : Value), mTh L q1 M3 W (wA W) → fr pR M1 M3 → -1 ≤ best → best < nF (wX W) → -1000000 ≤ most → most ≤ 1000000 →
          ∃ M4, am_ev 211 599 40 [.ref 187, .int (am_i p), .int (am_i n), .int (am_i (prof (wA W) p)), .int (am_i best), .long (am_l most), v6, .int (am_i f)] [] M3 = some (some (.int (am_i (sowk W p n m f best most))), M4) ∧ am_Sh L q1 M4 ∧ fr pR M1 M4 ∧ mA M4 (wA W) ∧ am_I M4 187 60 = am_i 0 := by
        intro m
        induction m with
        | zero =>
          intro f hf M3 best most v6 T3 f3 hb1 hb2 hm1 hm2
          obtain ⟨M4, s4, f4, S4, HA4, h60⟩ := mTh_back T3 597
          refine ⟨M4, ?_, S4, fr_tr f3 (fr_mono f4 (fun b k h => pR_back h)), HA4, h60⟩
          rw [t211_40, am_ob_p (kk_187 T3.1), m_filmMany T3.1 T3.2.1, am_bI_p, am_br_ge (by omega) (by omega) (by omega) (by omega), if_pos (by omega), am_ob_p (kk_187 T3.1), s4, am_bV_p]
          rfl
        | succ m ih =>
          intro f hf M3 best most v6 T3 f3 hb1 hb2 hm1 hm2
          have hfF : f < nF (wX W) := by omega
          have bs1 := aB_se BA hq6 (show f < 8 by omega)
          have bs2 := hB_pt B1 hfF
          have bs3 := bs1.2 hfF
          rw [t211_40, am_ob_p (kk_187 T3.1), m_filmMany T3.1 T3.2.1, am_bI_p, am_br_ge (by omega) (by omega) (by omega) (by omega), if_neg (by omega), am_ob_p (kk_187 T3.1), m_seenBy T3.1 T3.2.2.2.1 hq6 (show f < 8 by omega), am_bI_p, am_ob_p (kk_187 T3.1), m_partsOf T3.1 T3.2.1 B1 hfF, am_bI_p, am_br_ne (by omega) (by omega) (by omega) (by omega)]
          by_cases g3 : wA W 3 (prof (wA W) p) f < wX W 2 f 0
          · rw [if_neg (by omega)]
            obtain ⟨S3, HX3, HG3, HA3, HS3, h60⟩ := T3
            obtain ⟨M4, s4, S4, f4, HA4⟩ := m_partSeen S3 HX3 HG3 HA3 B1 B.2.2.1 BA hqP hfF g3 594
            have f4' : fr pR M3 M4 := fr_mono f4 (fun b k h => pH_s (by unfold pN at h; unfold pH; omega))
            have T4 : mTh L q1 M4 W (see (wX W) (wG W) (wA W) (prof (wA W) p) f) := ⟨S4, mH_mv HX3 B1 (fun b k k1 k2 k3 => (f4 b k (by unfold pN; omega)).1), mG_mv HG3 (fun b k k1 k2 k3 k4 => (f4 b k (by unfold pN; omega)).1), HA4, mAs_mv HS3 (fun k => (f4 230 k (by unfold pN; omega)).1), by rw [(f4 187 60 (by unfold pN; omega)).1]; exact h60⟩
            obtain ⟨M5, s5, f5, T5, Q5⟩ := mTh_hours T4 B (aB_see (G := wG W) B1 BA hqP hfF g3) (wK W) hn1 (by rw [see_ne _ _ _ _ _ (by omega) (by omega)]; exact hn2) 591
            obtain ⟨M6, s6, f6, T6⟩ := mTh_anew T5 B 598
            have ep : am_L M6 232 p = am_l (sowP W p n f) := by rw [(f6 232 p (by omega)).2]; exact Q5.1 p (by omega)
            have f36 : fr pR M1 M6 := fr_tr (fr_tr (fr_tr f3 f4') f5) (fr_mono f6 (fun b k h => pR_229 h))
            have bs := sb f hfF g3
            have ek : sowk W p n (m + 1) f best most = if best = -1 ∨ most < sowP W p n f then sowk W p n m (f + 1) f (sowP W p n f) else sowk W p n m (f + 1) best most := if_pos g3
            have at106 : ∀ (v4 v5 : Value), (best = -1 ∨ most < sowP W p n f) → ∃ M8, am_ev 211 599 106 [.ref 187, .int (am_i p), .int (am_i n), .int (am_i (prof (wA W) p)), v4, v5, v6, .int (am_i f)] [] M6 = some (some (.int (am_i (sowk W p n (m + 1) f best most))), M8) ∧ am_Sh L q1 M8 ∧ fr pR M1 M8 ∧ mA M8 (wA W) ∧ am_I M8 187 60 = am_i 0 := by
              intro v4 v5 h
              obtain ⟨M8, r8, hR⟩ := ih (f + 1) (by omega) M6 f (sowP W p n f) .null T6 f36 (by omega) (by omega) bs.1 bs.2
              refine ⟨M8, ?_, hR⟩
              rw [ek, if_pos h, t211_106]
              simp (disch := omega) only [am_ob_p (kk_187 T6.1), rr_187_62 T6.1, am_gr_p, am_ix_p (kk_232 T6.1), am_i_ix, Int.toNat_natCast, ep, am_i_add]
              exact r8
            rw [am_ob_p (kk_187 S3), s4, am_bV_p, am_ob_p (kk_187 S4), s5, am_bI_p, am_ob_p (kk_187 T5.1), s6, am_bV_p, am_br_eq (by omega) (by omega) (by omega) (by omega)]
            by_cases g4 : best = -1
            · rw [if_pos g4]
              exact at106 _ _ (Or.inl g4)
            · rw [if_neg g4]
              simp (disch := omega) only [am_ob_p (kk_187 T6.1), rr_187_62 T6.1, am_gr_p, am_ix_p (kk_232 T6.1), am_i_ix, Int.toNat_natCast, ep, cmp_gt]
              by_cases g5 : most < sowP W p n f
              · rw [if_pos g5]
                exact at106 _ _ (Or.inr g5)
              · rw [if_neg g5]
                obtain ⟨M8, r8, hR⟩ := ih (f + 1) (by omega) M6 best most (am_kl v6) T6 f36 hb1 hb2 hm1 hm2
                refine ⟨M8, ?_, hR⟩
                rw [ek, if_neg (by omega), am_i_add]
                exact r8
          · rw [if_pos (by omega), am_i_add]
            obtain ⟨M8, r8, hR⟩ := ih (f + 1) (by omega) M3 best most (am_kl v6) T3 f3 hb1 hb2 hm1 hm2
            refine ⟨M8, ?_, hR⟩
            have ek : sowk W p n (m + 1) f best most = sowk W p n m (f + 1) best most := if_neg g3
            rw [ek]
            exact r8
      obtain ⟨M4, s4, S4, f4, HA4, h60⟩ := mlp (nF (wX W)) 0 (by omega) M2 (-1) 0 .null T2 f2 (by omega) (by omega) (by omega) (by omega)
      refine Call_ahead (v := .int (am_i (sowk W p n (nF (wX W)) 0 (-1) 0))) (M1 := M1) (M2 := M4) (iv _) hq HC HM B h0 ?_ (fr_mono f1 (fun b k h => pB_s h)) hq1 hqq1 ?_ f4 HA4 h60 S4
      · rw [t20, am_ob_p (kk_2 S), r1, am_bI_p, am_br_eq (by omega) (by omega) (by omega) (by omega), if_p1 g, am_ob_p (kk_2 S), r2, am_bI_p, am_br_ne (by omega) (by omega) (by omega) (by omega), if_p1 g2]
        exact s1
      · have r5 := m_isPerson S1 HM1.1 B1 z1 z2 597
        have r6 := m_isAhead S1 HM1.2.2.2.1 BA w1 w2 (lo := 0) (hi := 72) (by decide) (by decide) (by decide) 597
        rw [t211, am_ob_p (kk_187 S1), r5, am_bI_p, am_br_eq (by omega) (by omega) (by omega) (by omega), if_p1 g, am_ob_p (kk_187 S1), r6, am_bI_p, am_br_ne (by omega) (by omega) (by omega) (by omega), if_p1 g2, am_ob_p (kk_187 S1), m_profileOf S1 HM1.2.2.2.1 (show p < 5 by omega), am_bI_p, am_ob_p (kk_187 S1), s2, am_bV_p]
        exact s4
    · have g2' := pas_0 g2
      refine Call_same (v := .int (am_i (-1))) (iv _) hq HC HM B h0 S ?_ ?_
      · rw [t20, am_ob_p (kk_2 S), r1, am_bI_p, am_br_eq (by omega) (by omega) (by omega) (by omega), if_p1 g, am_ob_p (kk_2 S), r2, am_bI_p, am_br_ne (by omega) (by omega) (by omega) (by omega), if_p0 g2']
      · rw [t211, am_ob_p (kk_187 S), m_isPerson S HM.1 B1 z1 z2, am_bI_p, am_br_eq (by omega) (by omega) (by omega) (by omega), if_p1 g, am_ob_p (kk_187 S), m_isAhead S HM.2.2.2.1 BA w1 w2 (by decide) (by decide) (by decide), am_bI_p, am_br_ne (by omega) (by omega) (by omega) (by omega), if_p0 g2']
  · have g' := is1_0 g
    refine Call_same (v := .int (am_i (-1))) (iv _) hq HC HM B h0 S ?_ ?_
    · rw [t20, am_ob_p (kk_2 S), r1, am_bI_p, am_br_eq (by omega) (by omega) (by omega) (by omega), if_p0 g']
    · rw [t211, am_ob_p (kk_187 S), m_isPerson S HM.1 B1 z1 z2, am_bI_p, am_br_eq (by omega) (by omega) (by omega) (by omega), if_p0 g']
